import java.util.ArrayList;
import java.util.List;
import java.util.Random;

/** Realms of chance (the same at each run), sound and spoilt, compared with the model in every call. */
public final class RandomTest {
    private static final int REALMS = 800;
    private static final int SPOILT = 30000;
    private static Random chance = new Random(20261118);
    private static final int[] seen = new int[7];
    private static int nameCount;
    private static String text;

    private static int below(int n) {
        return chance.nextInt(n);
    }

    private static String newName() {
        int n = nameCount++;
        return n < 26 ? "" + (char) ('a' + n) : "z" + (char) ('a' + n - 26) + (n > 51 ? "z" : "");
    }

    private static String pick(List<String> names) {
        return names.get(below(names.size()));
    }

    private static String two(List<String> places, String between) {
        String one = pick(places);
        String other = pick(places);
        while (other.equals(one)) {
            other = pick(places);
        }
        return one + " " + between + " " + other;
    }

    private static String day(int width) {
        int first = below(40);
        return " day " + first + (below(3) == 0 ? " to " + (first + below(width)) : "");
    }

    /** A sound text: lines of chance in an order in which every name is told ahead of its use. */
    static String text(int width) {
        nameCount = 0;
        List<List<String>> names = new ArrayList<>();
        for (int i = 0; i < 12; i++) {
            names.add(new ArrayList<>());
        }
        StringBuilder text = new StringBuilder();
        int[] most = {8, 4, 6, 12, 8, 6, 6, 4, 4, 4, 3, 6};
        int[] made = new int[12];
        List<String> lost = new ArrayList<>();
        add(text, "place " + told(names, 0));
        add(text, "place " + told(names, 0));
        add(text, "law " + told(names, 10) + lawWords());
        made[0] = 2;
        made[10] = 1;
        int[] likely = {0, 1, 2, 3, 3, 4, 4, 4, 5, 5, 5, 6, 6, 6, 7, 7, 7, 8, 8, 9, 10, 11, 11};
        int tries = 20 + below(80);
        for (int i = 0; i < tries && text.length() < 830; i++) {
            int sort = likely[below(likely.length)];
            if (sort == 0 && below(2) == 0 || made[sort] == most[sort]) {
                continue;
            }
            String line = line(sort, names, lost, width);
            if (line != null) {
                made[sort]++;
                add(text, line);
            }
        }
        return text.toString();
    }

    private static void add(StringBuilder text, String line) {
        text.append(text.length() == 0 ? "" : below(9) == 0 ? " ; " : ";").append(line);
    }

    private static String told(List<List<String>> names, int sort) {
        String name = newName();
        names.get(sort).add(name);
        return name;
    }

    private static String lawWords() {
        return (below(2) == 0 ? " older" : " later") + (below(2) == 0 ? " own" : " given")
            + (below(2) == 0 ? " named" : " alike") + (below(2) == 0 ? " copies" : " papers");
    }

    private static String good(List<List<String>> names) {
        return names.get(1).isEmpty() || below(3) == 0 ? "all" : pick(names.get(1));
    }

    private static String line(int sort, List<List<String>> names, List<String> lost, int width) {
        List<String> places = names.get(0);
        switch (sort) {
            case 0:
                return "place " + told(names, 0);
            case 1:
                return "goods " + told(names, 1);
            case 2:
                return "man " + told(names, 2) + " of " + pick(places) + " since " + below(45);
            case 3:
                return "road " + two(places, "to") + " long " + (1 + below(4));
            case 4:
                return "bridge " + told(names, 4) + " by " + two(places, "to") + " long " + (1 + below(4));
            case 5:
                return names.get(4).isEmpty() ? null : "take " + told(names, 5) + " at " + pick(names.get(4)) + " on "
                    + good(names) + " coin " + (1 + below(5)) + day(width);
            case 6:
                return "free " + told(names, 6) + " for " + pick(places) + " on " + good(names)
                    + (below(3) == 0 ? " own" : below(2) == 0 ? " trade" : " both") + day(width);
            case 7:
                return "as " + told(names, 7) + " for " + two(places, "like") + day(width);
            case 8: {
                List<String> papers = new ArrayList<>(names.get(5));
                papers.addAll(names.get(6));
                return papers.isEmpty() ? null : "renew " + pick(papers)
                    + (below(3) == 0 ? " same" : below(2) == 0 ? " more" : " less") + " day " + below(45);
            }
            case 9: {
                List<String> papers = new ArrayList<>(names.get(5));
                papers.addAll(names.get(6));
                papers.addAll(names.get(7));
                papers.removeAll(lost);
                if (papers.isEmpty()) {
                    return null;
                }
                lost.add(pick(papers));
                return "lost " + lost.get(lost.size() - 1) + (below(2) == 0 ? " copied" : "");
            }
            case 10:
                return "law " + told(names, 10) + lawWords();
            default:
                return names.get(1).isEmpty() || names.get(2).isEmpty() ? null : "cart " + told(names, 11) + " of "
                    + pick(names.get(2)) + " with " + pick(names.get(1)) + (below(2) == 0 ? " own" : " trade")
                    + " loads " + (1 + below(5)) + " from " + two(places, "to") + " day " + (10 + below(40));
        }
    }

    private static void due(String call, long got, long want) {
        Check.due(got == want ? call : call + " in '" + text + "'", got, want);
    }

    private static void compare(int width) {
        text = text(width);
        Model m = new Model(text);
        TollBars x = new TollBars();
        due("realm", Check.realm(x, text), m.count("place"));
        int[] sizes = {0, 1, 2, 3, 4, 5, 6, 7, 8, 10, 11};
        for (int i = 0; i < sizes.length; i++) {
            due("size(" + i + ")", x.size(i), m.lines.get(sizes[i]).size());
        }
        askAll(x, m);
        for (int i = 0; i < 4; i++) {
            change(x, m);
        }
        askAll(x, m);
    }

    private static void change(TollBars x, Model m) {
        int g = below(16);
        boolean there = m.paper(g) != null;
        switch (below(3)) {
            case 0: {
                boolean copied = below(2) == 0;
                boolean can = there && !m.lost.containsKey(g);
                Check.due("lose", x.lose(g, copied), can);
                due("trouble", x.trouble(), can ? 0 : there ? 5 : 1);
                if (can) {
                    m.lost.put(g, copied ? 2 : 1);
                }
                break;
            }
            case 1: {
                boolean can = there && m.lost.containsKey(g);
                Check.due("find", x.find(g), can);
                due("trouble", x.trouble(), can ? 0 : there ? 5 : 1);
                m.lost.remove(g);
                break;
            }
            default: {
                int day = below(45);
                Check.due("date", x.date(g, day), there);
                due("trouble", x.trouble(), there ? 0 : 1);
                if (there) {
                    m.days.put(g, new int[] {day, day});
                }
            }
        }
    }

    private static void askAll(TollBars x, Model m) {
        int law = below(m.count("law"));
        int day = below(60);
        for (int g = 0; g < 16; g++) {
            askGrant(x, m, g, day, law);
        }
        int place = below(m.count("place"));
        List<Integer> order = m.chainOrder(place, day, law);
        for (int i = 0; i <= order.size(); i++) {
            due("chain " + i, x.chain(place, day, law, i), i < order.size() ? order.get(i) : -1);
        }
        due("ring", x.ring(place, day, law), m.ring(place, day, law) ? 1 : 0);
        for (int c = 0; c < m.count("cart"); c++) {
            askCart(x, m, c, day, law);
        }
        due("coin", x.coin(law), m.coin(law));
        due("hangs", x.hangs(law), m.hangs(law));
        due("trouble", x.trouble(), m.hangs(law) < 0 ? 6 : 0);
        int other = below(m.count("law"));
        due("part", x.part(law, other), m.part(law, other));
    }

    private static void askGrant(TollBars x, Model m, int g, int day, int law) {
        if (m.paper(g) == null) {
            due("grant", x.grant(g, 0), -1);
            due("force", x.force(g, day, law), -1);
            return;
        }
        due("grant 0", x.grant(g, 0), m.span(g)[0]);
        due("grant 1", x.grant(g, 1), m.span(g)[1]);
        due("grant 2", x.grant(g, 2), m.lost.getOrDefault(g, 0));
        due("force", x.force(g, day, law), m.force(g, day, law) ? 1 : 0);
        due("worth", x.worth(g, law), m.worth(g, law));
        due("moves", x.moves(g, law), m.moves(g, law));
        int how = below(3);
        int when = below(60);
        due("brings", x.brings(g, how, when, law), g < 12 ? m.brings(g, how, when, law) : -1000000);
    }

    private static void askCart(TollBars x, Model m, int c, int day, int law) {
        for (int t = 0; t < m.count("take"); t++) {
            due("wins", x.wins(c, t, day, law), m.wins(c, t, day, law));
        }
        for (int b = 0; b < m.count("bridge"); b++) {
            int owes = m.owes(c, b, day, law);
            due("owes", x.owes(c, b, day, law), owes);
            int told = owes - below(2) * 3;
            due("judge", x.judge(c, b, day, law, told), told == owes ? 1 : 0);
        }
        Model.Way way = m.cheapest(c, law);
        due("way", x.way(c, law), way == null ? -1 : way.owes);
        due("trouble", x.trouble(), way == null ? 6 : 0);
        int place = below(m.count("place"));
        due("saves", x.saves(c, place, law), way == null ? -1000000 : way.owes - m.cheapest(c, law, place, 0).owes);
        due("partner", x.partner(c, law), m.partner(c, law));
        if (way != null) {
            due("length", x.length(), way.length);
            for (int i = 0; i <= way.places.size(); i++) {
                due("stop " + i, x.stop(i), i < way.places.size() ? way.places.get(i) : -1);
            }
            for (int i = 0; i <= way.bridges.size(); i++) {
                due("led " + i, Check.led(x, i), i < way.bridges.size() ? way.bridges.get(i) : -7);
            }
        }
        if (m.count("bridge") > 0 && below(4) == 0) {
            int b = below(m.count("bridge"));
            boolean few = m.choices() <= 2000;
            int[] both = few ? m.leastAndMost(c, b, day, law) : new int[] {-1, -1};
            due("sure least", x.sure(c, b, day, law, false), both[0]);
            due("trouble", x.trouble(), few ? 0 : 3);
            due("sure most", x.sure(c, b, day, law, true), both[1]);
        }
    }

    /** The line at a place comes again, perhaps with a new name, so that sorts fill up and names are told again. */
    private static void copyLine(StringBuilder text, int at) {
        int start = text.lastIndexOf(";", at) + 1;
        int end = text.indexOf(";", start);
        String line = text.substring(start, end < 0 ? text.length() : end).trim();
        int times = 1 + below(8);
        for (int i = 0; i < times; i++) {
            String fresh = below(6) == 0 ? "$1 $2" : "$1 y" + (char) ('a' + i);
            text.append(";").append(line.startsWith("r") || line.startsWith("lost") ? line : line.replaceFirst("^([a-z]+) +([a-z]+)", fresh));
        }
    }

    /** A text with a byte, a token or a line changed: fault and place must be the model's. */
    private static void spoil() {
        StringBuilder spoilt = new StringBuilder(text(21));
        int times = 1 + below(2);
        for (int i = 0; i < times; i++) {
            int at = below(spoilt.length());
            String tokens = "place goods man road bridge take free as renew lost law cart all to copied own 0 99 100 "
                + "999 1000 007 a b c d e f g h i j k l m ; day longwords toolongone to to to ; ; A ~ _ - \n";
            String[] list = tokens.split(" ");
            switch (below(6)) {
                case 0:
                    spoilt.deleteCharAt(at);
                    break;
                case 4:
                    copyLine(spoilt, at);
                    break;
                case 5:
                    spoilt.insert(0, "place qa;goods qb;man qc of qa since 3;".substring(0, new int[] {9, 18, 39}[below(3)])
                        .repeat(1 + below(2)));
                    break;
                case 1:
                    spoilt.insert(at, " " + list[below(list.length)] + " ");
                    break;
                case 2: {
                    int end = spoilt.indexOf(" ", at);
                    int start = spoilt.lastIndexOf(" ", at);
                    if (start >= 0 && end > start) {
                        spoilt.replace(start + 1, end, list[below(list.length)]);
                    }
                    break;
                }
                default:
                    spoilt.setCharAt(at, (char) (below(3) == 0 ? below(256) : "a1; z9b".charAt(below(7))));
            }
        }
        if (below(10) == 0) {
            spoilt.setLength(below(spoilt.length()));
        }
        if (spoilt.length() > 900) {
            spoilt.setLength(900);
        }
        text = spoilt.toString();
        Model m = new Model(text);
        TollBars x = new TollBars();
        int answer = Check.realm(x, text);
        due("spoilt realm", answer, m.fault == 0 ? m.count("place") : -1);
        due("fault", x.fault(), m.fault);
        due("where", x.where(), m.fault == 0 ? -1 : m.place);
        seen[m.fault]++;
    }

    public static void main(String[] args) {
        for (int i = 0; i < REALMS; i++) {
            compare(i % 3 == 0 ? 2 : i % 3 == 1 ? 4 : 21);
        }
        for (int i = 0; i < SPOILT; i++) {
            spoil();
        }
        for (int f = 0; f < 7; f++) {
            System.out.println("texts with fault " + f + ": " + seen[f]);
        }
        Check.end("RandomTest");
    }
}
