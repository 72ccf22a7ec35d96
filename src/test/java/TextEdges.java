import java.util.List;

/** Terms I: tokens, lines, names, bounds, rooms and the order of faults. */
final class TextEdges {
    private static final String TWO = "place a;place b;";
    private static final String LAW = "law l older own alike copies";
    /** One of each sort that has a name; the law's is l, the cart's k. */
    private static final String BASE = TWO + "goods g;bridge x by a to b long 2;man m of a since 5;"
        + "take t at x on all coin 3 day 10;free f for b on g both day 11;as s for a like b day 20;" + LAW
        + ";cart k of m with g own loads 1 from a to b day 1;";
    private static final String[] KEPT = {"place", "goods", "man", "road", "bridge", "take", "free", "as", "renew", "lost",
        "law", "cart", "all", "to", "copied"};
    /**
     * Lines token by token: + a new name; a told name with its sorts behind a slash (P place, G goods, M man, B bridge,
     * T take, F free, A as); = the same as the place ahead is a fault; # a whole with its bounds.
     */
    private static final String[] LINES = {
        "place +", "goods +", "man + of a/P since #0-999",
        "road a/P to b/P= long #1-99", "bridge + by b/P to a/P= long #1-99",
        "take + at x/B on g/G coin #1-99 day #0-999", "take + at x/B on all coin 5 day 30 to #30-50",
        "take + at x/B on all coin 5 day 990 to #990-999",
        "free + for a/P on g/G own day #0-999", "free + for b/P on all trade day 0 to #0-20",
        "free + for b/P on all both day 979 to #979-999",
        "as + for b/P like a/P= day #0-999", "as + for a/P like b/P= day 999 to #999-999",
        "renew t/TF same day #0-999", "renew f/TF more day #0-999", "renew f/TF less day 7",
        "lost s/TFA", "lost t/TFA copied", "law + later given named papers",
        "cart + of m/M with g/G own loads #1-99 from a/P to b/P= day #0-999",
        "cart + of m/M with g/G trade loads 9 from b/P to a/P= day 3"};
    /** The document's own words for a line, by the first word of it. */
    private static String grammar(String line) {
        switch (tokens(line)[0]) {
            case "man":
                return "man NAME of PLACE since WHOLE (0 .. 999)";
            case "road":
                return "road PLACE to PLACE long WHOLE, or bridge NAME by PLACE to PLACE long WHOLE (1 .. 99; the second PLACE "
                    + "another one)";
            case "bridge":
                return "bridge NAME by PLACE to PLACE long WHOLE (1 .. 99; the second PLACE another one)";
            case "take":
                return "take NAME at BRIDGE on GOOD coin WHOLE DAY (1 .. 99)";
            case "free":
                return "free NAME for PLACE on GOOD USE DAY";
            case "as":
                return "as NAME for PLACE like PLACE DAY (another one)";
            case "renew":
                return "renew NAME HOW day WHOLE (a take's, a free's; HOW: same, more, or less; 0 .. 999)";
            case "lost":
                return "lost NAME (a take's, a free's, an as's), behind it perhaps copied";
            case "law":
                return "law NAME WHO FROM WHAT PROOF";
            case "cart":
                return "cart NAME of MAN with GOODS FOR loads WHOLE from PLACE to PLACE day WHOLE (FOR: own, or trade; 1 .. 99; "
                    + "another PLACE; 0 .. 999)";
            default:
                return "place NAME, or goods NAME";
        }
    }

    private static final String TOLD = "abgxmtfslk";
    private static final String TOLD_SORTS = "PPGBMTFALC";

    private TextEdges() {
    }

    static void all() {
        blanks();
        letters();
        digits();
        semicolons();
        linesCutShort();
        tokensThatDontGoOn();
        newNames();
        toldNames();
        otherPlace();
        wholes();
        days();
        choicesOfWords();
        keptAsTold();
        lostAgain();
        rooms();
        lacks();
        firstFromTheLeft();
        onePlaceLeastNumber();
    }

    private static String[] tokens(String line) {
        return line.split(" ");
    }

    /** A token as it stands in a sound text. */
    private static String sound(String token) {
        if (token.equals("+")) {
            return "qq";
        }
        if (token.startsWith("#")) {
            return token.substring(1, token.indexOf('-'));
        }
        int slash = token.indexOf('/');
        return slash < 0 ? token : token.substring(0, slash);
    }

    /** The first tokens of a line, with blanks between them, then one. */
    private static String upTo(String line, int count, String last) {
        StringBuilder text = new StringBuilder(BASE);
        String[] tokens = tokens(line);
        for (int i = 0; i < count; i++) {
            text.append(sound(tokens[i])).append(' ');
        }
        return text + last;
    }

    /** A whole line with one token put for another. */
    private static String with(String line, int index, String token) {
        String[] tokens = tokens(line);
        StringBuilder text = new StringBuilder(upTo(line, index, token));
        for (int i = index + 1; i < tokens.length; i++) {
            text.append(' ').append(sound(tokens[i]));
        }
        return text.toString();
    }

    private static int place(String line, int index) {
        return upTo(line, index, "").length();
    }

    private static void isSound(String text) {
        TollBars x = new TollBars();
        Check.due("realm of '" + text + "'", Check.realm(x, text) >= 2, true);
        Check.due("fault() of '" + text + "'", x.fault(), 0);
    }

    private static void blanks() {
        Sentence.term(1, "blanks, 32, part TOKENS and mean nothing else");
        isSound("place a;place b;" + LAW);
        isSound("   place   a  ;  place  b  ;  law l   older own alike copies   ");
        isSound("place a;place b;road a to b long9;" + LAW);
        isSound("place a;place b;bridge x by a to b long2;take t at x on all coin3day4to5;" + LAW);
        Check.faulty("pl ace a", 1, 0);
        Check.faulty("placea;place b", 1, 0);
        Check.faulty("place a;place b;road a to b long 1 1", 1, 35);
        int[] none = {0, 1, 9, 10, 13, 31, 33, 127, 128, 160, 255};
        for (int other : none) {
            Check.faulty("place" + (char) other + "a", 1, 5);
            Check.faulty((char) other + "place a", 1, 0);
            Check.faulty(TWO + LAW + (char) other, 1, 44);
        }
    }

    private static void letters() {
        Sentence.term(1, "WORDS of 1 to 8 small letters that stand together");
        isSound("place a;place z;" + LAW);
        isSound("place abcdefgh;place abcdefgi;" + LAW);
        isSound("place zzzzzzzz;place z;road zzzzzzzz to z long 1;" + LAW);
        Check.faulty("place abcdefghi;place b;" + LAW, 1, 6);
        Check.faulty("place " + "a".repeat(894), 1, 6);
        Check.faulty("placeplace a", 1, 0);
        // Names that differ in their first, in their last letter, or in length alone are others.
        isSound("place abcdefgh;place bbcdefgh;" + LAW);
        isSound("place a;place aa;" + LAW);
        Check.faulty("place abcdefgh;place abcdefgh", 3, 21);
        char[] none = {'`', '{', 'A', 'Z', '@', '[', '_', (char) 225};
        for (char other : none) {
            Check.faulty("place " + other, 1, 6);
            Check.faulty("place a" + other, 1, 7);
        }
    }

    private static void digits() {
        Sentence.term(1, "WHOLES of 1 to 3 digits that do");
        isSound("place a;place b;man m of a since 0;" + LAW);
        isSound("place a;place b;man m of a since 000;" + LAW);
        isSound("place a;place b;man m of a since 999;" + LAW);
        TollBars x = Check.sound(BASE + "take u at x on all coin 007 day 09");
        Check.due("coin 007", x.grant(1, 5), 7);
        Check.due("day 09", x.grant(1, 0), 9);
        int at = (TWO + "man m of a since ").length();
        Check.faulty(TWO + "man m of a since 0000", 1, at);
        Check.faulty(TWO + "man m of a since 1000", 1, at);
        Check.faulty(TWO + "man m of a since 9999999999999999999999", 1, at);
        // 2 to the 32nd and 64th and 5 more, which would be 5 if they were cut.
        Check.faulty(TWO + "man m of a since 4294967301", 1, at);
        Check.faulty(TWO + "man m of a since 18446744073709551621", 1, at);
        char[] none = {'/', ':', '-', '+', '.'};
        for (char other : none) {
            Check.faulty(TWO + "man m of a since " + other + "1", 1, at);
            Check.faulty(TWO + "man m of a since 1" + other, 1, at + 1);
        }
    }

    private static void semicolons() {
        Sentence.term(1, "single ones of ;");
        isSound("place a;place b ; law l older own alike copies");
        isSound("place a ;place b; " + LAW);
        Check.faulty("place a;;place b", 1, 8);
        Check.faulty("place a; ;place b", 1, 9);
        Sentence.term(1, "LINE {; LINE}");
        Check.faulty(";", 1, 0);
        Check.faulty(";" + TWO + LAW, 1, 0);
        Check.faulty(TWO + LAW + ";", 1, 45);
        Check.faulty(TWO + LAW + " ; ", 1, 47);
        Check.faulty(TWO + ";" + LAW, 1, 16);
        Check.faulty("place a place b", 1, 8);
        Check.faulty("place a:place b", 1, 7);
        Check.faulty("", 1, 0);
        Check.faulty(" ", 1, 1);
    }

    /** A line cut behind each of its tokens is faulty at the end, but where it may end there. */
    private static void linesCutShort() {
        Sentence.term(1, "TOKEN with which no REALM goes on (the end: its place)");
        for (String line : LINES) {
            int count = tokens(line).length;
            for (int i = 1; i < count; i++) {
                String cut = upTo(line, i, "");
                boolean mayEnd = tokens(line)[i].equals("to") && cut.matches(".* day [0-9]+ ")
                    || tokens(line)[i].equals("copied");
                if (mayEnd) {
                    isSound(cut);
                } else {
                    Check.faulty(cut, 1, cut.length());
                    Check.faulty(cut.trim(), 1, cut.trim().length());
                    Check.faulty(cut + ";" + "place c", 1, cut.length());
                }
            }
            isSound(upTo(line, count, ""));
            Check.faulty(upTo(line, count, "zz"), 1, place(line, count));
            Check.faulty(upTo(line, count, "7"), 1, place(line, count));
        }
    }

    private static void tokensThatDontGoOn() {
        Sentence.term(1, "1 FORM: the first byte that begins no TOKEN, or TOKEN with which no REALM goes on");
        for (String line : LINES) {
            String[] tokens = tokens(line);
            for (int i = 0; i < tokens.length; i++) {
                boolean wantsWhole = tokens[i].matches("[#0-9].*");
                String[] never = {";", "A", "toolongword", "1234", "all", "copied", wantsWhole ? "zz" : "7"};
                for (String token : never) {
                    boolean goesOn = token.equals("all") && (tokens[i].equals("all") || tokens[i].endsWith("/G")
                        && !line.startsWith("cart")) || token.equals(tokens[i])
                        || token.equals(";") && tokens[i].equals("to") && tokens[i - 1].matches("[0-9]+")
                        || token.equals(";") && tokens[i].equals("copied");
                    if (!goesOn) {
                        Check.faulty(with(line, i, token), 1, place(line, i));
                    }
                }
            }
        }
        Check.faulty(BASE + "cart q of m with all own", 1, BASE.length() + 17);
        String[] words = {"older", "later", "own", "given", "named", "alike", "copies", "papers"};
        for (int i = 0; i < 4; i++) {
            for (int w = 0; w < words.length; w++) {
                String text = with("law + later given named papers", 2 + i, words[w]);
                if (w / 2 == i) {
                    isSound(text);
                } else {
                    Check.faulty(text, 1, place("law + later given named papers", 2 + i));
                }
            }
        }
    }

    private static void newNames() {
        for (String line : LINES) {
            int at = List.of(tokens(line)).indexOf("+");
            if (at < 0) {
                continue;
            }
            Sentence.term(1, "NAMES are WORDS but place, goods, man, road, bridge, take, free, as, renew, lost, law, cart, "
                + "all, to, copied");
            for (String word : KEPT) {
                Check.faulty(with(line, at, word), 1, place(line, at));
            }
            String[] free = {"of", "since", "long", "by", "at", "on", "coin", "day", "for", "own", "trade", "both", "like",
                "same", "more", "less", "older", "later", "given", "named", "alike", "copies", "papers", "with", "loads",
                "from", "tolls", "plac", "places", "al", "alls"};
            for (String word : free) {
                int want = line.startsWith("place") ? 3 : 2;
                Check.due("a realm with the name " + word, Check.realm(new TollBars(), with(line, at, word)), want);
            }
            Sentence.term(1, "3 a NAME told again");
            for (char told : TOLD.toCharArray()) {
                Check.faulty(with(line, at, "" + told), 3, place(line, at));
            }
        }
    }

    private static void toldNames() {
        for (String line : LINES) {
            String[] tokens = tokens(line);
            for (int i = 0; i < tokens.length; i++) {
                int slash = tokens[i].indexOf('/');
                if (slash < 0) {
                    continue;
                }
                Sentence.term(1, "2 a NAME that isn't told, or is of another sort than must stand there; at it");
                Check.faulty(with(line, i, "zz"), 2, place(line, i));
                Check.faulty(upTo(line, i, "own"), 2, place(line, i));
                for (int n = 0; n < TOLD.length(); n++) {
                    if (tokens[i].indexOf(TOLD_SORTS.charAt(n), slash) < 0) {
                        Check.faulty(with(line, i, "" + TOLD.charAt(n)), 2, place(line, i));
                    }
                }
                Sentence.term(1, "each told once, ahead of its use");
                if (tokens[1].equals("+")) {
                    Check.faulty(with(line, i, "qq"), 2, place(line, i));
                }
                Check.faulty(with(line, i, "zz") + ";place zz", 2, place(line, i));
            }
        }
        Check.faulty("road a to b long 1;place a;place b;" + LAW, 2, 5);
        Check.faulty("lost t;" + BASE, 2, 5);
    }

    private static void otherPlace() {
        for (String line : LINES) {
            String[] tokens = tokens(line);
            for (int i = 0; i < tokens.length; i++) {
                if (tokens[i].endsWith("=")) {
                    Sentence.term(1, grammar(line));
                    isSound(with(line, i, sound(tokens[i])));
                    Sentence.term(1, "a PLACE that must be another one and isn't");
                    Check.faulty(with(line, i, sound(tokens[i - 2])), 3, place(line, i));
                    Check.faulty(upTo(line, i, sound(tokens[i - 2])), 3, place(line, i));
                }
            }
        }
    }

    private static void wholes() {
        for (String line : LINES) {
            String[] tokens = tokens(line);
            for (int i = 0; i < tokens.length; i++) {
                if (tokens[i].startsWith("#")) {
                    int dash = tokens[i].indexOf('-');
                    bounds(line, i, Integer.parseInt(tokens[i].substring(1, dash)),
                        Integer.parseInt(tokens[i].substring(dash + 1)));
                }
            }
        }
    }

    private static void bounds(String line, int index, int low, int high) {
        boolean isDay = tokens(line)[index - 1].equals("to");
        Sentence.term(1, isDay ? "the latter not below the former, up to 20 above it, 999 at most" : grammar(line));
        isSound(with(line, index, "" + low));
        isSound(with(line, index, "" + high));
        Sentence.term(1, "4 a WHOLE out of bounds; at it");
        int at = place(line, index);
        if (low > 0) {
            Check.faulty(with(line, index, "" + (low - 1)), 4, at);
            Check.faulty(with(line, index, "0"), 4, at);
            Check.faulty(upTo(line, index, "" + (low - 1)), 4, at);
        }
        if (high < 999) {
            Check.faulty(with(line, index, "" + (high + 1)), 4, at);
            Check.faulty(with(line, index, "999"), 4, at);
        }
        Check.faulty(with(line, index, "1000"), 1, at);
    }

    /** Days of each sort of grant, at every span's edge that the sentence names. */
    private static void days() {
        Sentence.term(1, "DAY: day WHOLE, or day WHOLE to WHOLE (0 .. 999; the latter not below the former, up to 20 above it, 999 at "
            + "most: any DAY from one to the other)");
        String[] grants = {"take q at x on all coin 1 ", "free q for a on all own ", "as q for a like b "};
        int[] numbers = {1, 7, 13};
        int[][] sound = {{0, 0}, {0, 1}, {0, 20}, {7, 7}, {7, 27}, {500, 520}, {979, 999}, {980, 999}, {998, 999}, {999, 999}};
        int[][] wrong = {{0, 21}, {1, 0}, {7, 6}, {7, 28}, {7, 0}, {0, 999}, {978, 999}, {999, 998}, {999, 0}};
        for (int i = 0; i < grants.length; i++) {
            for (int[] s : sound) {
                TollBars x = Check.sound(BASE + grants[i] + "day " + s[0] + " to " + s[1]);
                Check.due("first of " + s[0] + " to " + s[1], x.grant(numbers[i], 0), s[0]);
                Check.due("last of " + s[0] + " to " + s[1], x.grant(numbers[i], 1), s[1]);
                TollBars one = Check.sound(BASE + grants[i] + "day " + s[1]);
                Check.due("first of " + s[1], one.grant(numbers[i], 0), s[1]);
                Check.due("last of " + s[1], one.grant(numbers[i], 1), s[1]);
            }
            for (int[] w : wrong) {
                String start = BASE + grants[i] + "day " + w[0] + " to ";
                Check.faulty(start + w[1], 4, start.length());
            }
            String start = BASE + grants[i] + "day 990 to ";
            Check.faulty(start + "1000", 1, start.length());
            Check.faulty(BASE + grants[i] + "day 1 to 2 to 3", 1, (BASE + grants[i] + "day 1 to 2 ").length());
        }
    }

    private static void choicesOfWords() {
        Sentence.term(1, "GOOD: a NAME of goods, or all.");
        isSound(BASE + "take q at x on g coin 1 day 1;take r at x on all coin 1 day 1;free u for a on g own day 1;"
            + "free v for a on all own day 1");
        Check.faulty(BASE + "take q at x on x coin 1 day 1", 2, BASE.length() + 15);
        Check.faulty(BASE + "free u for a on to own day 1", 1, BASE.length() + 16);
        Sentence.term(1, "USE: own, trade, or both.");
        TollBars x = Check.sound(BASE + "free q for a on g own day 1;free r for a on g trade day 1;free u for a on g both day 1");
        for (int use = 0; use < 3; use++) {
            Check.due("use " + use, x.grant(7 + use, 5), use);
        }
        Check.faulty(BASE + "free q for a on g same day 1", 1, BASE.length() + 18);
        Check.faulty(BASE + "free q for a on g day 1", 1, BASE.length() + 18);
        Sentence.term(1, "HOW: same, more, or less");
        isSound(BASE + "renew t same day 1;renew f more day 1;renew t less day 1");
        Check.faulty(BASE + "renew t both day 1", 1, BASE.length() + 8);
        Check.faulty(BASE + "renew t day 1", 1, BASE.length() + 8);
        Check.faulty(BASE + "renew s same day 1", 2, BASE.length() + 6);
        Sentence.term(1, "FOR: own, or trade");
        Check.faulty(BASE + "cart q of m with g both loads 1", 1, BASE.length() + 19);
    }

    /** The least and the greatest that a line may tell come back as they were told. */
    private static void keptAsTold() {
        Sentence.term(1, "take NAME at BRIDGE on GOOD coin WHOLE DAY (1 .. 99)");
        TollBars x = Check.sound(BASE + "take q at x on g coin 1 day 0;take r at x on g coin 99 day 999");
        Check.due("coin 1", x.grant(1, 5), 1);
        Check.due("coin 99", x.grant(2, 5), 99);
        Check.due("day 999", x.grant(2, 0), 999);
        Sentence.term(1, "FOR: own, or trade; 1 .. 99; another PLACE; 0 .. 999");
        TollBars y = Check.sound(BASE + "cart q of m with g own loads 1 from b to a day 0;cart r of m with g trade loads 99 from a to b "
            + "day 999");
        int[][] rows = {{0, 0, 0, 1, 1, 0, 0}, {0, 0, 1, 99, 0, 1, 999}};
        for (int c = 0; c < 2; c++) {
            for (int what = 0; what < 7; what++) {
                Check.due("cart(" + (1 + c) + ", " + what + ")", y.cart(1 + c, what), rows[c][what]);
            }
        }
    }

    private static void lostAgain() {
        Sentence.term(1, "a lost one lost again; at it");
        int at = BASE.length();
        String[] grants = {"t", "f", "s"};
        for (String one : grants) {
            Check.faulty(BASE + "lost " + one + ";lost " + one, 3, at + 12);
            Check.faulty(BASE + "lost " + one + " copied;lost " + one + " copied", 3, at + 19);
            Check.faulty(BASE + "lost " + one + ";lost " + one + " copied", 3, at + 12);
        }
        isSound(BASE + "lost t;lost f;lost s");
        Sentence.term(1, "lost NAME (a take's, a free's, an as's), behind it perhaps copied");
        TollBars x = Check.sound(BASE + "lost t;lost f copied;lost s copied");
        Check.due("t", x.grant(0, 2), 1);
        Check.due("f", x.grant(6, 2), 2);
        Check.due("s", x.grant(12, 2), 2);
    }

    /** Lines of a sort up to its room are sound; one more is faulty at its first word, whatever is behind it. */
    private static void rooms() {
        Sentence.term(1, "Up to 8 places, 4 goods, 6 men, 12 roads, 8 bridges, 6 takes, 6 frees, 4 as, 4 renewals, 4 losses, "
            + "3 laws, 6 carts.");
        String few = TWO + "goods g;bridge x by a to b long 2;man m of a since 5;take t at x on all coin 3 day 1;";
        room(TWO, "place ?", 2, 8);
        room(TWO, "goods ?", 0, 4);
        room(TWO, "man ? of a since 1", 0, 6);
        room(TWO, "road a to b long 1", 0, 12);
        room(TWO, "bridge ? by a to b long 1", 0, 8);
        room(few, "take ? at x on all coin 1 day 1", 1, 6);
        room(few, "free ? for a on all own day 1", 0, 6);
        room(few, "as ? for a like b day 1", 0, 4);
        room(few, "renew t same day 1", 0, 4);
        room(few, "cart ? of m with g own loads 1 from a to b day 1", 0, 6);
        room(TWO, "law ? older own alike copies", 1, 3);
        StringBuilder losses = new StringBuilder(few);
        for (char c = 'a'; c < 'e'; c++) {
            losses.append("free f" + c + " for a on all own day 1;");
        }
        losses.append("lost fa;lost fb;lost fc;lost fd;");
        isSound(losses + LAW);
        many(losses.toString(), "lost t");
        many(losses.toString(), "lost fa");
    }

    private static void room(String start, String line, int has, int room) {
        StringBuilder text = new StringBuilder(start + LAW + ";");
        for (int i = has; i < room; i++) {
            text.append(line.replace("?", "r" + (char) ('a' + i))).append(';');
        }
        TollBars x = new TollBars();
        String whole = text.substring(0, text.length() - 1);
        Check.due("realm of " + room + ": " + line, Check.realm(x, whole) >= 2, true);
        many(text.toString(), line.replace("?", "rz"));
        many(text.toString(), line.replace("?", "a"));
    }

    private static void many(String full, String line) {
        Sentence.term(1, "5 MANY: a LINE more of its sort than there is room for, at its first WORD");
        String word = line.substring(0, line.indexOf(' '));
        Check.faulty(full + line, 5, full.length());
        Check.faulty(full + word, 5, full.length());
        Check.faulty(full + "  " + word + " ?", 5, full.length() + 2);
        Check.faulty(full + line + ";;", 5, full.length());
    }

    private static void lacks() {
        Sentence.term(1, "6 LACKS, at the end: fewer than two places, no law");
        Check.faulty("place a", 6, 7);
        Check.faulty("place a;" + LAW, 6, 36);
        Check.faulty(LAW, 6, 28);
        Check.faulty(LAW + "   ", 6, 31);
        Check.faulty("place a;place b", 6, 15);
        Check.faulty("place a;place b;place c;goods g", 6, 31);
        Check.faulty("goods g", 6, 7);
        isSound(TWO + LAW);
        isSound(LAW + ";place a;place b");
    }

    private static void firstFromTheLeft() {
        Sentence.term(1, "FAULTS, the first that is met from the left");
        String[] tails = {"", ";?", ";road a to zz", ";place a", ";road a to b long 0"};
        for (String tail : tails) {
            Check.faulty(TWO + "place ?" + tail, 1, 22);
            Check.faulty(TWO + "man m of zz since 3" + tail, 2, 25);
            Check.faulty(TWO + "goods a" + tail, 3, 22);
            Check.faulty(TWO + "road a to b long 100" + tail, 4, 33);
            Check.faulty(LAW + ";law n older own alike copies;law o older own alike copies;law p older" + tail, 5, 87);
        }
        // A place that isn't another one stands ahead of the whole that is out of bounds.
        Check.faulty(TWO + "road a to a long 0", 3, 26);
        Check.faulty(TWO + "road zz to zz long 0", 2, 21);
        Check.faulty(TWO + "bridge a by zz to zz long 0", 3, 23);
    }

    private static void onePlaceLeastNumber() {
        Sentence.term(1, "of one place the least number");
        // The end is no line (1) and lacks (6).
        Check.faulty("", 1, 0);
        Check.faulty("place a;", 1, 8);
        Check.faulty("place a;place", 1, 13);
        Check.faulty("place a;place b;law l older own alike", 1, 37);
        // A kept word is no name (1), so it isn't one that isn't told (2) or is told again (3).
        Check.faulty(TWO + "road place to b", 1, 21);
        Check.faulty(TWO + "road a to to", 1, 26);
        // A name of another sort (2) isn't asked whether it is the place ahead (3).
        Check.faulty(TWO + "goods g;road g to g", 2, 29);
        Check.faulty(TWO + "goods g;road a to g", 2, 34);
        // Four digits are no whole (1), so they aren't out of bounds (4).
        Check.faulty(TWO + "road a to b long 1000", 1, 33);
    }
}
