import java.util.ArrayList;
import java.util.HashMap;
import java.util.List;
import java.util.Map;

/**
 * The document told a second time, slowly and by other means (patterns of lines, all chains of as, all ways
 * one by one), for runs of chance to be compared with.
 */
final class Model {
    static final String[] SORTS = {
        "place", "goods", "man", "road", "bridge", "take", "free", "as", "renew", "lost", "law", "cart"};
    private static final int[] ROOM = {8, 4, 6, 12, 8, 6, 6, 4, 4, 4, 3, 6};
    private static final List<String> KEPT = List.of("place", "goods", "man", "road", "bridge", "take", "free",
        "as", "renew", "lost", "law", "cart", "all", "to", "copied");
    // new; sorts in capitals for told names, ! for another one; a|b choices; #low-high wholes; DAY; GOOD; LOSS
    private static final String[] PATTERNS = {
        "new", "new", "new of PLACE since #0-999",
        "PLACE to !PLACE long #1-99", "new by PLACE to !PLACE long #1-99",
        "new at BRIDGE on GOOD coin #1-99 DAY", "new for PLACE on GOOD own|trade|both DAY",
        "new for PLACE like !PLACE DAY", "TAKE/FREE same|more|less day #0-999", "TAKE/FREE/AS LOSS",
        "new older|later own|given named|alike copies|papers",
        "new of MAN with GOODS own|trade loads #1-99 from PLACE to !PLACE day #0-999"};

    /** The numbers told in a line: names by their index, choices by theirs, wholes; -2 for all. */
    static final class Line {
        int sort;
        int at;
        List<Integer> nums = new ArrayList<>();
    }

    private static final class Bad extends RuntimeException {
        private static final long serialVersionUID = 1;
        final int fault;
        final int place;

        Bad(int fault, int place) {
            this.fault = fault;
            this.place = place;
        }
    }

    int fault;
    int place;
    List<List<Line>> lines = new ArrayList<>();
    Map<Integer, Integer> lost = new HashMap<>();
    Map<Integer, int[]> days = new HashMap<>();
    Map<Integer, Integer> pick = new HashMap<>();
    int[] extraRenewal;

    private final String text;
    private int pos;
    private String tok;
    private int tokAt;
    private final Map<String, int[]> names = new HashMap<>();

    Model(String text) {
        this.text = text;
        for (int i = 0; i < SORTS.length; i++) {
            lines.add(new ArrayList<>());
        }
        try {
            parse();
        } catch (Bad bad) {
            fault = bad.fault;
            place = bad.place;
        }
    }

    // ---- the text

    private void next() {
        while (pos < text.length() && text.charAt(pos) == ' ') {
            pos++;
        }
        tokAt = pos;
        String rest = text.substring(pos);
        tok = rest.isEmpty() ? "" : rest.startsWith(";") ? ";" : rest.replaceAll("(?s)^([a-z]+|[0-9]+)?.*$", "$1");
        boolean none = !rest.isEmpty() && (tok.isEmpty() || !tok.matches(";|[a-z]{1,8}|[0-9]{1,3}"));
        pos += tok.length();
        if (none) {
            tok = "?";
        }
    }

    private void parse() {
        next();
        while (true) {
            int sort = List.of(SORTS).indexOf(tok);
            if (sort < 0) {
                throw new Bad(1, tokAt);
            }
            if (lines.get(sort).size() == ROOM[sort]) {
                throw new Bad(5, tokAt);
            }
            Line line = new Line();
            line.sort = sort;
            line.at = tokAt;
            next();
            for (String part : PATTERNS[sort].split(" ")) {
                item(line, part);
            }
            lines.get(sort).add(line);
            if (tok.isEmpty()) {
                break;
            }
            if (!tok.equals(";")) {
                throw new Bad(1, tokAt);
            }
            next();
        }
        if (count("place") < 2 || count("law") < 1) {
            throw new Bad(6, tokAt);
        }
    }

    private void item(Line line, String part) {
        if (part.equals("new")) {
            needName();
            if (names.containsKey(tok)) {
                throw new Bad(3, tokAt);
            }
            names.put(tok, new int[] {line.sort, lines.get(line.sort).size()});
            next();
        } else if (part.equals("DAY")) {
            item(line, "day");
            item(line, "#0-999");
            int first = line.nums.get(line.nums.size() - 1);
            if (tok.equals("to")) {
                next();
                item(line, "#" + first + "-" + Math.min(999, first + 20));
            } else {
                line.nums.add(first);
            }
        } else if (part.equals("GOOD")) {
            if (tok.equals("all")) {
                line.nums.add(-2);
                next();
            } else {
                item(line, "GOODS");
            }
        } else if (part.equals("LOSS")) {
            if (tok.equals("copied")) {
                lost.put(line.nums.get(0), 2);
                next();
            }
        } else if (part.startsWith("#")) {
            int dash = part.indexOf('-');
            if (!tok.matches("[0-9]+")) {
                throw new Bad(1, tokAt);
            }
            int value = Integer.parseInt(tok);
            if (value < Integer.parseInt(part.substring(1, dash)) || value > Integer.parseInt(part.substring(dash + 1))) {
                throw new Bad(4, tokAt);
            }
            line.nums.add(value);
            next();
        } else if (Character.isUpperCase(part.charAt(part.length() - 1))) {
            told(line, part);
        } else {
            int chosen = List.of(part.split("\\|")).indexOf(tok);
            if (chosen < 0) {
                throw new Bad(1, tokAt);
            }
            if (part.contains("|")) {
                line.nums.add(chosen);
            }
            next();
        }
    }

    private void needName() {
        if (!tok.matches("[a-z]+") || KEPT.contains(tok)) {
            throw new Bad(1, tokAt);
        }
    }

    private void told(Line line, String part) {
        needName();
        int[] named = names.get(tok);
        boolean other = part.startsWith("!");
        String sorts = (other ? part.substring(1) : part).toLowerCase();
        if (named == null || !List.of(sorts.split("/")).contains(SORTS[named[0]])) {
            throw new Bad(2, tokAt);
        }
        int number = named[1];
        if (sorts.contains("/")) {
            number += named[0] == 6 ? 6 : named[0] == 7 ? 12 : 0;
        }
        if (other && line.nums.get(line.nums.size() - 1) == number) {
            throw new Bad(3, tokAt);
        }
        if (sorts.endsWith("/as")) {
            if (lost.containsKey(number)) {
                throw new Bad(3, tokAt);
            }
            lost.put(number, 1);
        }
        line.nums.add(number);
        next();
    }

    // ---- the realm

    int count(String sort) {
        return lines.get(List.of(SORTS).indexOf(sort)).size();
    }

    int of(String sort, int number, int what) {
        return lines.get(List.of(SORTS).indexOf(sort)).get(number).nums.get(what);
    }

    Line paper(int g) {
        int sort = g < 6 ? 5 : g < 12 ? 6 : 7;
        int i = g < 6 ? g : g < 12 ? g - 6 : g - 12;
        return i >= 0 && i < lines.get(sort).size() ? lines.get(sort).get(i) : null;
    }

    /** The first day and the last. */
    int[] span(int g) {
        if (days.containsKey(g)) {
            return days.get(g);
        }
        List<Integer> nums = paper(g).nums;
        int n = nums.size();
        return new int[] {nums.get(n - 2), nums.get(n - 1)};
    }

    int day(int g) {
        return pick.containsKey(g) ? pick.get(g) : span(g)[0];
    }

    boolean force(int g, int day, int law) {
        int loss = lost.getOrDefault(g, 0);
        return day(g) <= day && (loss == 0 || loss == 2 && of("law", law, 3) == 0);
    }

    /** How and day of the renewal that counts, or null. */
    private int[] renewal(int g, int day) {
        List<int[]> all = new ArrayList<>();
        for (Line line : lines.get(8)) {
            all.add(new int[] {line.nums.get(0), line.nums.get(1), line.nums.get(2)});
        }
        if (extraRenewal != null) {
            all.add(extraRenewal);
        }
        int[] best = null;
        for (int[] one : all) {
            if (one[0] == g && one[2] <= day && (best == null || one[2] >= best[1])) {
                best = new int[] {one[1], one[2]};
            }
        }
        return best;
    }

    private int lawDay(int g, int day, int law) {
        int[] renewal = renewal(g, day);
        return renewal != null && of("law", law, 0) == 1 ? renewal[1] : day(g);
    }

    private int goods(int g, int day) {
        int[] renewal = renewal(g, day);
        return renewal != null && renewal[0] == 1 ? -2 : paper(g).nums.get(1);
    }

    private int coin(int take, int day) {
        int[] renewal = renewal(take, day);
        int coin = paper(take).nums.get(2);
        return renewal != null && renewal[0] == 2 ? coin / 2 : coin;
    }

    private int use(int free, int day) {
        int[] renewal = renewal(free, day);
        return renewal == null || renewal[0] == 0 ? paper(free).nums.get(2) : renewal[0] == 1 ? 2 : 0;
    }

    /** Every chain of as from a place, each as once at most, kept if it is the least to its end. */
    Map<Integer, List<Integer>> chains(int place, int day, int law) {
        Map<Integer, List<Integer>> best = new HashMap<>();
        best.put(place, List.of());
        chains(place, day, law, new ArrayList<>(), best);
        return best;
    }

    private void chains(int at, int day, int law, List<Integer> way, Map<Integer, List<Integer>> best) {
        for (int g = 12; paper(g) != null; g++) {
            if (!force(g, day, law) || paper(g).nums.get(0) != at || way.contains(g)) {
                continue;
            }
            List<Integer> longer = new ArrayList<>(way);
            longer.add(g);
            int like = paper(g).nums.get(1);
            if (!best.containsKey(like) || before(longer, best.get(like))) {
                best.put(like, longer);
            }
            chains(like, day, law, longer, best);
        }
    }

    private static boolean before(List<Integer> one, List<Integer> other) {
        if (one.size() != other.size()) {
            return one.size() < other.size();
        }
        return lexical(one, other) < 0;
    }

    private static int lexical(List<Integer> one, List<Integer> other) {
        for (int i = 0; i < Math.min(one.size(), other.size()); i++) {
            if (!one.get(i).equals(other.get(i))) {
                return one.get(i) - other.get(i);
            }
        }
        return one.size() - other.size();
    }

    List<Integer> chainOrder(int place, int day, int law) {
        Map<Integer, List<Integer>> best = chains(place, day, law);
        List<Integer> order = new ArrayList<>(best.keySet());
        order.remove(Integer.valueOf(place));
        order.sort((a, b) -> before(best.get(a), best.get(b)) ? -1 : 1);
        return order;
    }

    boolean ring(int place, int day, int law) {
        for (int next : chains(place, day, law).keySet()) {
            for (int g = 12; paper(g) != null; g++) {
                if (force(g, day, law) && paper(g).nums.get(0) == next && paper(g).nums.get(1) == place) {
                    return true;
                }
            }
        }
        return false;
    }

    int wins(int cart, int take, int day, int law, int place, int since) {
        if (since > day) {
            return -2;
        }
        Map<Integer, List<Integer>> chains = chains(place, day, law);
        for (int f = 6; f < 12 && paper(f) != null; f++) {
            int home = paper(f).nums.get(0);
            if (!force(f, day, law) || !chains.containsKey(home)) {
                continue;
            }
            int on = goods(f, day);
            int use = use(f, day);
            if (on != -2 && on != of("cart", cart, 1) || use != 2 && use != of("cart", cart, 2)) {
                continue;
            }
            int free = lawDay(f, day, law);
            if (of("law", law, 1) == 0 && !chains.get(home).isEmpty()) {
                free = Math.max(free, day(chains.get(home).get(0)));
            }
            boolean unlike = (on == -2) != (goods(take, day) == -2);
            int taken = lawDay(take, day, law);
            boolean won = of("law", law, 2) == 0 && unlike ? on != -2
                : of("law", law, 0) == 0 ? free <= taken : free >= taken;
            if (won) {
                return f;
            }
        }
        return -2;
    }

    int wins(int cart, int take, int day, int law) {
        int man = of("cart", cart, 0);
        return wins(cart, take, day, law, of("man", man, 0), of("man", man, 1));
    }

    int owes(int cart, int bridge, int day, int law, int place, int since) {
        int sum = 0;
        for (int t = 0; t < 6 && paper(t) != null; t++) {
            int on = goods(t, day);
            if (paper(t).nums.get(0) == bridge && force(t, day, law) && (on == -2 || on == of("cart", cart, 1))
                && wins(cart, t, day, law, place, since) < 0) {
                sum += coin(t, day) * of("cart", cart, 3);
            }
        }
        return sum;
    }

    int owes(int cart, int bridge, int day, int law) {
        int man = of("cart", cart, 0);
        return owes(cart, bridge, day, law, of("man", man, 0), of("man", man, 1));
    }

    long choices() {
        double product = 1;
        for (int g = 0; g < 16; g++) {
            if (paper(g) != null) {
                product *= span(g)[1] - span(g)[0] + 1;
            }
        }
        return (long) Math.min(product, 1e9);
    }

    int[] leastAndMost(int cart, int bridge, int day, int law) {
        int[] both = {Integer.MAX_VALUE, Integer.MIN_VALUE};
        go(0, cart, bridge, day, law, both);
        pick.clear();
        return both;
    }

    private void go(int g, int cart, int bridge, int day, int law, int[] both) {
        if (g == 16) {
            int owes = owes(cart, bridge, day, law);
            both[0] = Math.min(both[0], owes);
            both[1] = Math.max(both[1], owes);
        } else if (paper(g) == null) {
            go(g + 1, cart, bridge, day, law, both);
        } else {
            for (int d = span(g)[0]; d <= span(g)[1]; d++) {
                pick.put(g, d);
                go(g + 1, cart, bridge, day, law, both);
            }
        }
    }

    // ---- ways

    /** A way: what is owed, how long it is, its places, its bridges. */
    static final class Way {
        int owes;
        int length;
        List<Integer> places = new ArrayList<>();
        List<Integer> bridges = new ArrayList<>();
    }

    Way cheapest(int cart, int law, int manPlace, int since) {
        Way start = new Way();
        start.places.add(of("cart", cart, 4));
        Way[] best = {null};
        Map<Integer, Integer> owed = new HashMap<>();
        for (int b = 0; b < count("bridge"); b++) {
            owed.put(b, owes(cart, b, of("cart", cart, 6), law, manPlace, since));
        }
        walk(start, of("cart", cart, 5), owed, best);
        return best[0];
    }

    Way cheapest(int cart, int law) {
        int man = of("cart", cart, 0);
        return cheapest(cart, law, of("man", man, 0), of("man", man, 1));
    }

    private void walk(Way way, int goal, Map<Integer, Integer> owed, Way[] best) {
        int at = way.places.get(way.places.size() - 1);
        if (at == goal) {
            if (best[0] == null || cheaper(way, best[0])) {
                best[0] = way;
            }
            return;
        }
        for (int next = 0; next < count("place"); next++) {
            int[] link = way.places.contains(next) ? null : link(at, next, owed);
            if (link == null) {
                continue;
            }
            Way longer = new Way();
            longer.owes = way.owes + link[0];
            longer.length = way.length + link[1];
            longer.places.addAll(way.places);
            longer.places.add(next);
            longer.bridges.addAll(way.bridges);
            if (link[3] >= 0) {
                longer.bridges.add(link[3]);
            }
            walk(longer, goal, owed, best);
        }
    }

    private static boolean cheaper(Way one, Way other) {
        if (one.owes != other.owes) {
            return one.owes < other.owes;
        }
        return one.length != other.length ? one.length < other.length : lexical(one.places, other.places) < 0;
    }

    /** Owes, length, place in the text, and bridge (-1 for a road) of what leads best between two places. */
    private int[] link(int one, int other, Map<Integer, Integer> owed) {
        int[] best = null;
        for (int sort = 3; sort <= 4; sort++) {
            for (int i = 0; i < lines.get(sort).size(); i++) {
                Line line = lines.get(sort).get(i);
                int a = line.nums.get(0);
                int b = line.nums.get(1);
                if (a == one && b == other || a == other && b == one) {
                    int[] link = {sort == 3 ? 0 : owed.get(i), line.nums.get(2), line.at, sort == 3 ? -1 : i};
                    if (best == null || before(List.of(link[0], link[1], link[2]), List.of(best[0], best[1], best[2]))) {
                        best = link;
                    }
                }
            }
        }
        return best;
    }

    int coin(int law) {
        int sum = 0;
        for (int c = 0; c < count("cart"); c++) {
            Way way = cheapest(c, law);
            sum += way == null ? 0 : way.owes;
        }
        return sum;
    }


    int worth(int g, int law) {
        int before = coin(law);
        Integer former = lost.get(g);
        lost.put(g, 1);
        int after = coin(law);
        if (former == null) {
            lost.remove(g);
        } else {
            lost.put(g, former);
        }
        return after - before;
    }

    int moves(int g, int law) {
        int least = Integer.MAX_VALUE;
        int most = Integer.MIN_VALUE;
        for (int d = span(g)[0]; d <= span(g)[1]; d++) {
            pick.put(g, d);
            int coin = coin(law);
            least = Math.min(least, coin);
            most = Math.max(most, coin);
        }
        pick.clear();
        return most - least;
    }

    /** The grant on which most hangs, or -1 if none has a span. */
    int hangs(int law) {
        int best = -1;
        int most = -1;
        for (int g = 0; g < 16; g++) {
            if (paper(g) != null && span(g)[1] > span(g)[0] && moves(g, law) > most) {
                most = moves(g, law);
                best = g;
            }
        }
        return best;
    }

    int brings(int g, int how, int day, int law) {
        int before = coin(law);
        extraRenewal = new int[] {g, how, day};
        int after = coin(law);
        extraRenewal = null;
        return after - before;
    }

    /** The partner, or -1 without a way. */
    int partner(int cart, int law) {
        Way own = cheapest(cart, law);
        if (own == null) {
            return -1;
        }
        int best = of("cart", cart, 0);
        int least = own.owes;
        for (int m = 0; m < count("man"); m++) {
            int owes = cheapest(cart, law, of("man", m, 0), of("man", m, 1)).owes;
            if (owes < least) {
                least = owes;
                best = m;
            }
        }
        return best;
    }

    int part(int one, int other) {
        for (int c = 0; c < count("cart"); c++) {
            for (int b = 0; b < count("bridge"); b++) {
                int day = of("cart", c, 6);
                if (owes(c, b, day, one) != owes(c, b, day, other)) {
                    return 10 * c + b;
                }
            }
        }
        return -2;
    }
}
