import java.util.Arrays;
import java.util.NoSuchElementException;

/**
 * A house where it is found who owes toll. The face only looks at numbers and keeps the latest trouble;
 * what a text means is found by Reader, what a law makes of grants by Sitting and Court, ways by Walker,
 * and coin by Exchequer. All rows are made in constructors, so that no call makes an object.
 */
public final class TollBars {
    public static final int NONE = -1;

    private static final int NO_SUM = -1_000_000;
    private static final int NOBODY = -2;

    private static final int TAPE_ROOM = 900;
    private static final int LAST_DAY = 999;
    private static final int MOST_CHOICES = 2000;

    private static final int NO_SUCH = 1;
    private static final int BAD_NUMBER = 2;
    private static final int NO_ROOM = 3;
    private static final int FAULTY = 4;
    private static final int NOT_SO = 5;
    private static final int NO_WAY = 6;

    private static final int FORM = 1;
    private static final int UNTOLD = 2;
    private static final int AGAIN = 3;
    private static final int BOUNDS = 4;
    private static final int MANY = 5;
    private static final int LACKS = 6;

    // The sorts of lines, numbered as their first words stand in SORTS.
    private static final String SORTS = "place goods man road bridge take free as renew lost law cart";
    private static final int PLACE = 0;
    private static final int GOODS = 1;
    private static final int MAN = 2;
    private static final int ROAD = 3;
    private static final int BRIDGE = 4;
    private static final int TAKE = 5;
    private static final int FREE = 6;
    private static final int AS = 7;
    private static final int RENEW = 8;
    private static final int LOST = 9;
    private static final int LAW = 10;
    private static final int CART = 11;
    private static final int[] ROOM = {8, 4, 6, 12, 8, 6, 6, 4, 4, 4, 3, 6};
    // size() passes over losses.
    private static final int[] COUNTED = {PLACE, GOODS, MAN, ROAD, BRIDGE, TAKE, FREE, AS, RENEW, LAW, CART};
    private static final String KEPT_WORDS =
        "place goods man road bridge take free as renew lost law cart all to copied";

    private static final int MOST_PLACES = 8;
    private static final int MOST_LINKS = 20;
    private static final int MOST_NAMES = 51;
    private static final int GRANTS = 16;
    private static final int FIRST_FREE = 6;
    private static final int FIRST_AS = 12;

    private static final int ALL = -2;
    private static final int OWN = 0;
    private static final int BOTH = 2;
    private static final int MORE = 1;
    private static final int LESS = 2;
    private static final int GONE = 1;
    private static final int COPIED = 2;

    // What cart() tells of a cart, and where it stands in the cart's row.
    private static final int CART_ROW = 7;
    private static final int OF_MAN = 0;
    private static final int WITH = 1;
    private static final int FOR_USE = 2;
    private static final int LOADS = 3;
    private static final int FROM = 4;
    private static final int TO = 5;
    private static final int ON_DAY = 6;

    // Owes and length in one number: no way is 1,000 long, so the lesser number is the cheaper way.
    private static final int OWES_UNIT = 1000;
    private static final int FAR = 1_000_000_000;

    private final byte[] tape = new byte[TAPE_ROOM];
    private int taped;
    // A text is read into the spare one, so that a fault leaves the realm as it is.
    private Realm here = new Realm();
    private Realm spare = new Realm();
    private final Reader reader = new Reader(tape, spare);
    private final Exchequer exchequer = new Exchequer(here);
    private final Way latestWay = new Way();
    private int refusal;

    public TollBars() {
    }

    // ---- the realm

    public int feed(int a, int b, int c, int d, int e) {
        if (taped > TAPE_ROOM - 20) {
            return NONE;
        }
        putBytes(a);
        putBytes(b);
        putBytes(c);
        putBytes(d);
        putBytes(e);
        return taped;
    }

    private void putBytes(int four) {
        for (int shift = 24; shift >= 0; shift -= 8) {
            if (taped >= 0 && taped < TAPE_ROOM) {
                tape[taped] = (byte) (four >> shift);
                taped++;
            }
        }
    }

    public int realm(int n) {
        if (n < 0 || n > taped) {
            return refused(BAD_NUMBER);
        }
        boolean sound = reader.read(spare, n);
        taped = 0;
        if (!sound) {
            return refused(FAULTY);
        }
        Realm former = here;
        here = spare;
        spare = former;
        latestWay.forget();
        refusal = 0;
        return here.counts[PLACE];
    }

    public int fault() {
        return reader.faultFound;
    }

    public int where() {
        return refusal == FAULTY ? reader.faultPlace : NONE;
    }

    // ---- who owes

    public int owes(int cart, int bridge, int day, int law) {
        if (!admitted(knownCase(cart, bridge, law), day)) {
            return NONE;
        }
        exchequer.open(here, law);
        return exchequer.owedAt(cart, bridge, day);
    }

    public int wins(int cart, int take, int day, int law) {
        boolean known = here.has(CART, cart) && here.has(TAKE, take) && here.has(LAW, law);
        if (!admitted(known, day)) {
            return NONE;
        }
        exchequer.open(here, law);
        return exchequer.winner(cart, take, day);
    }

    public int judge(int cart, int bridge, int day, int law, int told) {
        if (!admitted(knownCase(cart, bridge, law), day)) {
            return NONE;
        }
        exchequer.open(here, law);
        return exchequer.owedAt(cart, bridge, day) == told ? 1 : 0;
    }

    public int sure(int cart, int bridge, int day, int law, boolean most) {
        if (!admitted(knownCase(cart, bridge, law), day)) {
            return NONE;
        }
        if (here.choices() > MOST_CHOICES) {
            return refused(NO_ROOM);
        }
        exchequer.open(here, law);
        return exchequer.extreme(cart, bridge, day, most);
    }

    public int force(int grant, int day, int law) {
        if (!admitted(here.hasGrant(grant) && here.has(LAW, law), day)) {
            return NONE;
        }
        exchequer.open(here, law);
        exchequer.sitting.sit(day);
        return exchequer.sitting.inForce[grant] ? 1 : 0;
    }

    public int chain(int place, int day, int law, int i) {
        if (!admitted(here.has(PLACE, place) && here.has(LAW, law), day)) {
            return NONE;
        }
        exchequer.open(here, law);
        Reach reach = exchequer.reachFrom(place, day);
        // The place itself stands first in the order and is none.
        if (i < 0 || i >= reach.reached - 1) {
            return refused(NO_SUCH);
        }
        return reach.order[i + 1];
    }

    public int ring(int place, int day, int law) {
        if (!admitted(here.has(PLACE, place) && here.has(LAW, law), day)) {
            return NONE;
        }
        exchequer.open(here, law);
        Reach reach = exchequer.reachFrom(place, day);
        return reach.leadsBack(exchequer.sitting, place) ? 1 : 0;
    }

    // ---- ways

    public int way(int cart, int law) {
        if (!admitted(here.has(CART, cart) && here.has(LAW, law), 0)) {
            return NONE;
        }
        exchequer.open(here, law);
        int owed = exchequer.owedByOwner(cart);
        if (owed < 0) {
            return refused(NO_WAY);
        }
        latestWay.trace(here, exchequer.walker, here.ofCart(cart, FROM), here.ofCart(cart, TO));
        return owed;
    }

    public int stop(int i) {
        return i >= 0 && i < latestWay.stopCount ? latestWay.stops[i] : NONE;
    }

    public int length() {
        return latestWay.stopCount > 0 ? latestWay.longTogether : NONE;
    }

    public int partner(int cart, int law) {
        if (!admitted(here.has(CART, cart) && here.has(LAW, law), 0)) {
            return NONE;
        }
        exchequer.open(here, law);
        int man = exchequer.cheapestMan(cart);
        return man < 0 ? refused(NO_WAY) : man;
    }

    public int saves(int cart, int place, int law) {
        if (!admitted(here.has(CART, cart) && here.has(PLACE, place) && here.has(LAW, law), 0)) {
            return NO_SUM;
        }
        exchequer.open(here, law);
        int owed = exchequer.owedByOwner(cart);
        if (owed < 0) {
            refused(NO_WAY);
            return NO_SUM;
        }
        return owed - exchequer.owedOnWay(cart, place, 0);
    }

    // ---- worth

    public int coin(int law) {
        if (!admitted(here.has(LAW, law), 0)) {
            return NONE;
        }
        exchequer.open(here, law);
        return exchequer.allCoin();
    }

    public int worth(int grant, int law) {
        if (!admitted(here.hasGrant(grant) && here.has(LAW, law), 0)) {
            return NO_SUM;
        }
        exchequer.open(here, law);
        int before = exchequer.allCoin();
        exchequer.sitting.losses[grant] = GONE;
        return exchequer.allCoin() - before;
    }

    public int hangs(int law) {
        if (!admitted(here.has(LAW, law), 0)) {
            return NONE;
        }
        exchequer.open(here, law);
        int grant = exchequer.greatestMover();
        return grant < 0 ? refused(NO_WAY) : grant;
    }

    public int moves(int grant, int law) {
        if (!admitted(here.hasGrant(grant) && here.has(LAW, law), 0)) {
            return NONE;
        }
        exchequer.open(here, law);
        return exchequer.moved(grant);
    }

    public int brings(int grant, int how, int day, int law) {
        boolean renewable = here.hasGrant(grant) && grant < FIRST_AS;
        if (!admitted(renewable && how >= 0 && how <= LESS && here.has(LAW, law), day)) {
            return NO_SUM;
        }
        exchequer.open(here, law);
        int before = exchequer.allCoin();
        exchequer.sitting.suppose(grant, how, day);
        return exchequer.allCoin() - before;
    }

    public int part(int one, int other) {
        if (!admitted(here.has(LAW, one) && here.has(LAW, other), 0)) {
            return NONE;
        }
        for (int cart = 0; cart < here.counts[CART]; cart++) {
            int bridge = firstUnlikeBridge(cart, one, other);
            if (bridge >= 0) {
                return 10 * cart + bridge;
            }
        }
        return NOBODY;
    }

    private int firstUnlikeBridge(int cart, int one, int other) {
        int day = here.ofCart(cart, ON_DAY);
        for (int bridge = 0; bridge < here.counts[BRIDGE]; bridge++) {
            exchequer.open(here, one);
            int owed = exchequer.owedAt(cart, bridge, day);
            exchequer.open(here, other);
            if (exchequer.owedAt(cart, bridge, day) != owed) {
                return bridge;
            }
        }
        return NONE;
    }

    // ---- papers

    public boolean lose(int grant, boolean copied) {
        if (!admitted(here.hasGrant(grant), 0)) {
            return false;
        }
        if (here.losses[grant] != 0) {
            refusal = NOT_SO;
            return false;
        }
        here.losses[grant] = copied ? COPIED : GONE;
        return true;
    }

    public boolean find(int grant) {
        if (!admitted(here.hasGrant(grant), 0)) {
            return false;
        }
        if (here.losses[grant] == 0) {
            refusal = NOT_SO;
            return false;
        }
        here.losses[grant] = 0;
        return true;
    }

    public boolean date(int grant, int day) {
        if (!admitted(here.hasGrant(grant), day)) {
            return false;
        }
        here.firstDay[grant] = day;
        here.lastDay[grant] = day;
        return true;
    }

    public int grant(int g, int what) {
        if (!here.hasGrant(g)) {
            return NONE;
        }
        switch (what) {
            case 0:
                return here.firstDay[g];
            case 1:
                return here.lastDay[g];
            case 2:
                return here.losses[g];
            case 3:
                return here.spot[g];
            case 4:
                return here.goods[g];
            case 5:
                return here.amount[g];
            case 6:
                return here.renewalsOf(g);
            default:
                return NONE;
        }
    }

    public int cart(int c, int what) {
        return here.has(CART, c) && what >= 0 && what < CART_ROW ? here.ofCart(c, what) : NONE;
    }

    public int led(int i) throws NoSuchElementException {
        if (i < 0 || i >= latestWay.bridgeCount) {
            throw new NoSuchElementException("no such bridge on the way");
        }
        return latestWay.bridges[i];
    }

    public int size(int what) {
        if (what == COUNTED.length) {
            return taped;
        }
        return what >= 0 && what < COUNTED.length ? here.counts[COUNTED[what]] : NONE;
    }

    public int trouble() {
        return refusal;
    }

    private boolean knownCase(int cart, int bridge, int law) {
        return here.has(CART, cart) && here.has(BRIDGE, bridge) && here.has(LAW, law);
    }

    /** What isn't there is told ahead of a day out of bounds. */
    private boolean admitted(boolean known, int day) {
        refusal = 0;
        if (!known) {
            refusal = NO_SUCH;
        } else if (day < 0 || day > LAST_DAY) {
            refusal = BAD_NUMBER;
        }
        return refusal == 0;
    }

    private int refused(int number) {
        refusal = number;
        return NONE;
    }

    /** What a text told, and what papers were lost, found and dated since. */
    private static final class Realm {
        final int[] counts = new int[ROOM.length];
        final int[] manPlace = new int[6];
        final int[] manSince = new int[6];
        // Roads and bridges stand together, in the order of their lines, for ways prefer the first line's.
        final int[] linkOne = new int[MOST_LINKS];
        final int[] linkOther = new int[MOST_LINKS];
        final int[] linkLong = new int[MOST_LINKS];
        final int[] linkBridge = new int[MOST_LINKS];
        final int[] firstDay = new int[GRANTS];
        final int[] lastDay = new int[GRANTS];
        final int[] losses = new int[GRANTS];
        final int[] spot = new int[GRANTS];
        // Of an as the place that it is like.
        final int[] goods = new int[GRANTS];
        // Coin of a take, use of a free.
        final int[] amount = new int[GRANTS];
        final int[] renewed = new int[4];
        final int[] renewHow = new int[4];
        final int[] renewDay = new int[4];
        final int[] laws = new int[3];
        final int[] carts = new int[6 * CART_ROW];

        void clear() {
            Arrays.fill(counts, 0);
            // Grants that aren't told must have no span and no loss.
            Arrays.fill(firstDay, 0);
            Arrays.fill(lastDay, 0);
            Arrays.fill(losses, 0);
        }

        boolean has(int sort, int number) {
            return number >= 0 && number < counts[sort];
        }

        boolean hasGrant(int grant) {
            if (grant < FIRST_FREE) {
                return has(TAKE, grant);
            }
            return grant < FIRST_AS ? has(FREE, grant - FIRST_FREE) : has(AS, grant - FIRST_AS);
        }

        int ofCart(int cart, int what) {
            return carts[cart * CART_ROW + what];
        }

        int links() {
            return counts[ROAD] + counts[BRIDGE];
        }

        int renewalsOf(int grant) {
            int found = 0;
            for (int r = 0; r < counts[RENEW]; r++) {
                if (renewed[r] == grant) {
                    found++;
                }
            }
            return found;
        }

        /** How many choices of days there are, counted no further than just above the most allowed. */
        int choices() {
            int product = 1;
            for (int g = 0; g < GRANTS && product <= MOST_CHOICES; g++) {
                product *= lastDay[g] - firstDay[g] + 1;
            }
            return product;
        }
    }

    /** The tokens of a text, one at a time. */
    private static final class Tokens {
        static final int END = 0;
        static final int WORD = 1;
        static final int WHOLE = 2;
        static final int PARTING = 3;
        static final int NO_TOKEN = 4;

        private final byte[] text;
        private int end;
        private int next;
        int kind;
        int start;
        // A word's letters, five bits each, or a whole's value.
        long code;

        Tokens(byte[] bytes) {
            text = bytes;
        }

        void open(int count) {
            end = Math.min(count, text.length);
            next = 0;
            advance();
        }

        void advance() {
            int at = next;
            while (at < end && text[at] == ' ') {
                at++;
            }
            start = at;
            code = 0;
            int first = at < end ? text[at] : 0;
            boolean letter = first >= 'a' && first <= 'z';
            boolean digit = first >= '0' && first <= '9';
            if (letter || digit) {
                int low = letter ? 'a' : '0';
                int high = letter ? 'z' : '9';
                while (at < end && text[at] >= low && text[at] <= high) {
                    code = letter ? code * 32 + (text[at] - 'a' + 1) : code * 10 + (text[at] - '0');
                    at++;
                }
                // Letters or digits that stand together in too great a number are no token at all.
                boolean tooLong = at - start > (letter ? 8 : 3);
                kind = tooLong ? NO_TOKEN : letter ? WORD : WHOLE;
            } else if (at < end) {
                at++;
                kind = first == ';' ? PARTING : NO_TOKEN;
            } else {
                kind = END;
            }
            next = at;
        }

        /** Which of these words, parted by blanks, stands here; NONE if none does. */
        int among(String words) {
            if (kind != WORD) {
                return NONE;
            }
            int index = 0;
            long word = 0;
            for (int i = 0; i < words.length(); i++) {
                char c = words.charAt(i);
                if (c != ' ') {
                    word = word * 32 + (c - 'a' + 1);
                } else if (word == code) {
                    return index;
                } else {
                    index++;
                    word = 0;
                }
            }
            return word == code ? index : NONE;
        }
    }

    /** The names that a text has told so far. */
    private static final class Names {
        private final long[] codes = new long[MOST_NAMES];
        private final int[] sorts = new int[MOST_NAMES];
        private final int[] numbers = new int[MOST_NAMES];
        private int count;

        void clear() {
            count = 0;
        }

        void add(long code, int sort, int number) {
            if (count < MOST_NAMES) {
                codes[count] = code;
                sorts[count] = sort;
                numbers[count] = number;
                count++;
            }
        }

        /** The number of what is so named, if its sort is from low to high; NONE else. */
        int numberOf(long code, int low, int high) {
            int i = indexOf(code);
            return i >= 0 && sorts[i] >= low && sorts[i] <= high ? numbers[i] : NONE;
        }

        int indexOf(long code) {
            for (int i = 0; i < count; i++) {
                if (codes[i] == code) {
                    return i;
                }
            }
            return NONE;
        }
    }

    /** Reads a text into a realm. Every step answers whether it went well; the first fault is kept. */
    private static final class Reader {
        private final Tokens tokens;
        private final Names names = new Names();
        // The numbers of the present line, from the left, and where its latest told name stands.
        private final int[] told = new int[8];
        private int toldCount;
        private int toldAt;
        private Realm into;
        int faultFound;
        int faultPlace = NONE;

        Reader(byte[] text, Realm first) {
            tokens = new Tokens(text);
            into = first;
        }

        boolean read(Realm realm, int count) {
            into = realm;
            into.clear();
            names.clear();
            faultFound = 0;
            faultPlace = NONE;
            tokens.open(count);
            boolean well = readLine();
            // No text has as many lines as bytes.
            for (int line = 1; line < TAPE_ROOM && well && tokens.kind != Tokens.END; line++) {
                well = parting() && readLine();
            }
            if (well && (into.counts[PLACE] < 2 || into.counts[LAW] == 0)) {
                well = failHere(LACKS);
            }
            return well;
        }

        private boolean failHere(int number) {
            return failAt(number, tokens.start);
        }

        private boolean failAt(int number, int place) {
            faultFound = number;
            faultPlace = place;
            return false;
        }

        private boolean parting() {
            if (tokens.kind != Tokens.PARTING) {
                return failHere(FORM);
            }
            tokens.advance();
            return true;
        }

        private boolean readLine() {
            int sort = tokens.among(SORTS);
            if (sort < 0 || sort >= ROOM.length) {
                return failHere(FORM);
            }
            int number = into.counts[sort];
            if (number >= ROOM[sort]) {
                return failHere(MANY);
            }
            tokens.advance();
            toldCount = 0;
            boolean well = sort < TAKE ? landLine(sort, number) : paperLine(sort, number);
            if (well) {
                into.counts[sort]++;
            }
            return well;
        }

        private boolean landLine(int sort, int number) {
            switch (sort) {
                case MAN:
                    return newName(MAN, number) && word("of") && use(PLACE, PLACE)
                        && word("since") && whole(0, LAST_DAY) && keepMan(number);
                case ROAD:
                    return use(PLACE, PLACE) && word("to") && use(PLACE, PLACE) && differ()
                        && word("long") && whole(1, 99) && keepLink(NONE);
                case BRIDGE:
                    return newName(BRIDGE, number) && word("by") && use(PLACE, PLACE) && word("to")
                        && use(PLACE, PLACE) && differ() && word("long") && whole(1, 99) && keepLink(number);
                default:
                    return newName(sort, number);
            }
        }

        private boolean paperLine(int sort, int number) {
            switch (sort) {
                case TAKE:
                    return newName(TAKE, number) && word("at") && use(BRIDGE, BRIDGE) && word("on")
                        && (all() || use(GOODS, GOODS)) && word("coin") && whole(1, 99)
                        && span() && keepGrant(number);
                case FREE:
                    return newName(FREE, FIRST_FREE + number) && word("for") && use(PLACE, PLACE) && word("on")
                        && (all() || use(GOODS, GOODS)) && choice("own trade both")
                        && span() && keepGrant(FIRST_FREE + number);
                case AS:
                    return newName(AS, FIRST_AS + number) && word("for") && use(PLACE, PLACE) && word("like")
                        && use(PLACE, PLACE) && differ() && tell(0) && span() && keepGrant(FIRST_AS + number);
                case RENEW:
                    return use(TAKE, FREE) && choice("same more less") && word("day")
                        && whole(0, LAST_DAY) && keepRenewal(number);
                case LOST:
                    return use(TAKE, AS) && keepLoss(told[0]);
                case LAW:
                    return newName(LAW, number) && choice("older later") && choice("own given")
                        && choice("named alike") && choice("copies papers") && keepLaw(number);
                default:
                    return newName(CART, number) && word("of") && use(MAN, MAN) && word("with")
                        && use(GOODS, GOODS) && choice("own trade") && word("loads") && whole(1, 99)
                        && word("from") && use(PLACE, PLACE) && word("to") && use(PLACE, PLACE) && differ()
                        && word("day") && whole(0, LAST_DAY) && keepCart(number);
            }
        }

        private boolean keepMan(int man) {
            into.manPlace[man] = told[0];
            into.manSince[man] = told[1];
            return true;
        }

        private boolean keepLink(int bridge) {
            int link = into.links();
            if (link < MOST_LINKS) {
                into.linkOne[link] = told[0];
                into.linkOther[link] = told[1];
                into.linkLong[link] = told[2];
                into.linkBridge[link] = bridge;
            }
            return true;
        }

        private boolean keepGrant(int grant) {
            into.spot[grant] = told[0];
            into.goods[grant] = told[1];
            into.amount[grant] = told[2];
            into.firstDay[grant] = told[3];
            into.lastDay[grant] = told[4];
            return true;
        }

        private boolean keepRenewal(int renewal) {
            into.renewed[renewal] = told[0];
            into.renewHow[renewal] = told[1];
            into.renewDay[renewal] = told[2];
            return true;
        }

        private boolean keepLoss(int grant) {
            if (into.losses[grant] != 0) {
                return failAt(AGAIN, toldAt);
            }
            into.losses[grant] = GONE;
            if (tokens.among("copied") == 0) {
                into.losses[grant] = COPIED;
                tokens.advance();
            }
            return true;
        }

        private boolean keepLaw(int law) {
            into.laws[law] = told[0] | told[1] << 1 | told[2] << 2 | told[3] << 3;
            return true;
        }

        private boolean keepCart(int cart) {
            System.arraycopy(told, 0, into.carts, cart * CART_ROW, CART_ROW);
            return true;
        }

        private boolean word(String one) {
            if (tokens.among(one) != 0) {
                return failHere(FORM);
            }
            tokens.advance();
            return true;
        }

        private boolean choice(String words) {
            int chosen = tokens.among(words);
            if (chosen < 0) {
                return failHere(FORM);
            }
            tokens.advance();
            return tell(chosen);
        }

        private boolean all() {
            if (tokens.among("all") != 0) {
                return false;
            }
            tokens.advance();
            return tell(ALL);
        }

        private boolean whole(int low, int high) {
            if (tokens.kind != Tokens.WHOLE) {
                return failHere(FORM);
            }
            int value = (int) tokens.code;
            if (value < low || value > high) {
                return failHere(BOUNDS);
            }
            tokens.advance();
            return tell(value);
        }

        /** A day told once or as a span: its first and its last. */
        private boolean span() {
            if (!(word("day") && whole(0, LAST_DAY))) {
                return false;
            }
            int first = latest(0);
            if (tokens.among("to") != 0) {
                return tell(first);
            }
            tokens.advance();
            return whole(first, first + 20);
        }

        private boolean isName() {
            return tokens.kind == Tokens.WORD && tokens.among(KEPT_WORDS) < 0;
        }

        private boolean newName(int sort, int number) {
            if (!isName()) {
                return failHere(FORM);
            }
            if (names.indexOf(tokens.code) >= 0) {
                return failHere(AGAIN);
            }
            names.add(tokens.code, sort, number);
            tokens.advance();
            return true;
        }

        /** A name told before, of a sort from the one to the other. */
        private boolean use(int lowSort, int highSort) {
            if (!isName()) {
                return failHere(FORM);
            }
            int number = names.numberOf(tokens.code, lowSort, highSort);
            if (number < 0) {
                return failHere(UNTOLD);
            }
            toldAt = tokens.start;
            tokens.advance();
            return tell(number);
        }

        /** The place told last must be another one than that told ahead of it. */
        private boolean differ() {
            return latest(0) != latest(1) || failAt(AGAIN, toldAt);
        }

        private boolean tell(int value) {
            if (toldCount < told.length) {
                told[toldCount] = value;
                toldCount++;
            }
            return true;
        }

        /** The number told so many ahead of the latest. */
        private int latest(int back) {
            int i = toldCount - 1 - back;
            return i >= 0 && i < told.length ? told[i] : NONE;
        }
    }

    /** The grants as one law has them on one day. Days and losses are its own, so that they can be supposed. */
    private static final class Sitting {
        final int[] days = new int[GRANTS];
        final int[] losses = new int[GRANTS];
        final boolean[] inForce = new boolean[GRANTS];
        final int[] lawDay = new int[GRANTS];
        final int[] goods = new int[GRANTS];
        final int[] amount = new int[GRANTS];
        Realm realm;
        boolean later;
        boolean given;
        boolean named;
        private boolean copies;
        int today;
        private int supposed;
        private int supposedHow;
        private int supposedDay;

        Sitting(Realm first) {
            realm = first;
        }

        void open(Realm ofRealm, int law) {
            realm = ofRealm;
            int words = realm.laws[law];
            later = (words & 1) != 0;
            given = (words & 2) != 0;
            named = (words & 4) == 0;
            copies = (words & 8) == 0;
            supposed = NONE;
            System.arraycopy(realm.firstDay, 0, days, 0, GRANTS);
            System.arraycopy(realm.losses, 0, losses, 0, GRANTS);
        }

        void suppose(int grant, int how, int day) {
            supposed = grant;
            supposedHow = how;
            supposedDay = day;
        }

        void sit(int day) {
            today = day;
            for (int g = 0; g < GRANTS; g++) {
                if (realm.hasGrant(g)) {
                    weigh(g);
                }
            }
        }

        void weigh(int g) {
            inForce[g] = days[g] <= today && (losses[g] == 0 || losses[g] == COPIED && copies);
            lawDay[g] = days[g];
            goods[g] = realm.goods[g];
            amount[g] = realm.amount[g];
            int how = NONE;
            int latest = NONE;
            for (int r = 0; r < realm.counts[RENEW]; r++) {
                if (realm.renewed[r] == g && realm.renewDay[r] <= today && realm.renewDay[r] >= latest) {
                    how = realm.renewHow[r];
                    latest = realm.renewDay[r];
                }
            }
            if (supposed == g && supposedDay <= today && supposedDay >= latest) {
                how = supposedHow;
                latest = supposedDay;
            }
            if (latest >= 0) {
                renew(g, how, latest);
            }
        }

        private void renew(int g, int how, int day) {
            boolean isTake = g < FIRST_FREE;
            if (later) {
                lawDay[g] = day;
            }
            if (how == MORE) {
                goods[g] = ALL;
                amount[g] = isTake ? amount[g] : BOTH;
            } else if (how == LESS) {
                amount[g] = isTake ? amount[g] / 2 : OWN;
            }
        }

        /** Goes on to the next choice of days, like a counter of many wheels; false behind the last. */
        boolean nextChoice() {
            for (int g = 0; g < GRANTS; g++) {
                boolean more = days[g] < realm.lastDay[g];
                if (more || days[g] != realm.firstDay[g]) {
                    days[g] = more ? days[g] + 1 : realm.firstDay[g];
                    weigh(g);
                }
                if (more) {
                    return true;
                }
            }
            return false;
        }
    }

    /** The places that as in force lead to from one place. */
    private static final class Reach {
        private static final int UNREACHED = -2;
        private static final int ITSELF = -1;

        final int[] order = new int[MOST_PLACES];
        // By place: the first as on the way to it.
        final int[] firstAs = new int[MOST_PLACES];
        int reached;

        /** Going on from places as they were reached, by as in their order, finds the least ways first. */
        void from(Sitting sitting, int place) {
            Realm realm = sitting.realm;
            Arrays.fill(firstAs, UNREACHED);
            firstAs[place] = ITSELF;
            order[0] = place;
            reached = 1;
            for (int i = 0; i < reached && i < MOST_PLACES; i++) {
                for (int a = 0; a < realm.counts[AS]; a++) {
                    int as = FIRST_AS + a;
                    int like = realm.goods[as];
                    boolean leads = sitting.inForce[as] && realm.spot[as] == order[i];
                    if (leads && firstAs[like] == UNREACHED && reached < MOST_PLACES) {
                        firstAs[like] = i == 0 ? as : firstAs[order[i]];
                        order[reached] = like;
                        reached++;
                    }
                }
            }
        }

        boolean has(int place) {
            return firstAs[place] != UNREACHED;
        }

        boolean leadsBack(Sitting sitting, int place) {
            Realm realm = sitting.realm;
            for (int a = 0; a < realm.counts[AS]; a++) {
                int as = FIRST_AS + a;
                if (sitting.inForce[as] && realm.goods[as] == place && has(realm.spot[as])) {
                    return true;
                }
            }
            return false;
        }
    }

    /** Hears one cart in one man's name, on the day of a sitting. */
    private static final class Court {
        private static final int NO_FREEDOM = -1;

        final Reach reach = new Reach();
        private final int[] freedomDay = new int[GRANTS];
        private final Sitting sitting;
        private int goods;
        private int loads;

        Court(Sitting one) {
            sitting = one;
        }

        void hear(int cart, int place, int since) {
            Realm realm = sitting.realm;
            goods = realm.ofCart(cart, WITH);
            loads = realm.ofCart(cart, LOADS);
            int use = realm.ofCart(cart, FOR_USE);
            reach.from(sitting, place);
            for (int f = 0; f < realm.counts[FREE]; f++) {
                int free = FIRST_FREE + f;
                boolean serves = sitting.inForce[free] && isOn(free)
                    && (sitting.amount[free] == use || sitting.amount[free] == BOTH);
                boolean his = since <= sitting.today && reach.has(realm.spot[free]);
                freedomDay[free] = serves && his ? dayOfFreedom(free) : NO_FREEDOM;
            }
        }

        private boolean isOn(int grant) {
            return sitting.goods[grant] == goods || sitting.goods[grant] == ALL;
        }

        private int dayOfFreedom(int free) {
            int as = reach.firstAs[sitting.realm.spot[free]];
            int day = sitting.lawDay[free];
            return as < 0 || sitting.given ? day : Math.max(day, sitting.lawDay[as]);
        }

        /** The first free that wins against a take; NOBODY if none does. */
        int winner(int take) {
            boolean takeNames = sitting.goods[take] != ALL;
            for (int f = 0; f < sitting.realm.counts[FREE]; f++) {
                int free = FIRST_FREE + f;
                int day = freedomDay[free];
                if (day == NO_FREEDOM) {
                    continue;
                }
                boolean freeNames = sitting.goods[free] != ALL;
                boolean won;
                if (sitting.named && freeNames != takeNames) {
                    won = freeNames;
                } else {
                    won = sitting.later ? day >= sitting.lawDay[take] : day <= sitting.lawDay[take];
                }
                if (won) {
                    return free;
                }
            }
            return NOBODY;
        }

        int owedAt(int bridge) {
            int owed = 0;
            for (int take = 0; take < sitting.realm.counts[TAKE]; take++) {
                if (sitting.realm.spot[take] == bridge && sitting.inForce[take] && isOn(take)
                        && winner(take) == NOBODY) {
                    owed += sitting.amount[take] * loads;
                }
            }
            return owed;
        }
    }

    /** Measures ways to one place for the cart that a court has heard. */
    private static final class Walker {
        private final int[] cost = new int[MOST_LINKS];
        // By place: the cost from it to the goal.
        final int[] rest = new int[MOST_PLACES];

        void measure(Realm realm, Court court, int goal) {
            int links = realm.links();
            for (int link = 0; link < links; link++) {
                int bridge = realm.linkBridge[link];
                int owed = bridge < 0 ? 0 : court.owedAt(bridge);
                cost[link] = owed * OWES_UNIT + realm.linkLong[link];
            }
            Arrays.fill(rest, FAR);
            rest[goal] = 0;
            boolean nearer = true;
            for (int round = 0; round < MOST_PLACES && nearer; round++) {
                nearer = false;
                for (int link = 0; link < links; link++) {
                    int one = realm.linkOne[link];
                    int other = realm.linkOther[link];
                    if (rest[other] + cost[link] < rest[one]) {
                        rest[one] = rest[other] + cost[link];
                        nearer = true;
                    } else if (rest[one] + cost[link] < rest[other]) {
                        rest[other] = rest[one] + cost[link];
                        nearer = true;
                    }
                }
            }
        }

        /** The link to the least place by which a cheapest way goes on; of several to it the first line's. */
        int nextLink(Realm realm, int place) {
            int best = NONE;
            int bestPlace = MOST_PLACES;
            for (int link = 0; link < realm.links(); link++) {
                int next = farEnd(realm, link, place);
                if (next >= 0 && next < bestPlace && rest[next] + cost[link] == rest[place]) {
                    best = link;
                    bestPlace = next;
                }
            }
            return best;
        }

        int farEnd(Realm realm, int link, int place) {
            if (realm.linkOne[link] == place) {
                return realm.linkOther[link];
            }
            return realm.linkOther[link] == place ? realm.linkOne[link] : NONE;
        }
    }

    /** The latest way that was told. */
    private static final class Way {
        final int[] stops = new int[MOST_PLACES];
        final int[] bridges = new int[MOST_PLACES];
        int stopCount;
        int bridgeCount;
        int longTogether;

        void forget() {
            stopCount = 0;
            bridgeCount = 0;
            longTogether = 0;
        }

        void trace(Realm realm, Walker walker, int from, int goal) {
            forget();
            longTogether = walker.rest[from] % OWES_UNIT;
            int place = from;
            stops[0] = place;
            stopCount = 1;
            while (place != goal && stopCount < MOST_PLACES) {
                int link = walker.nextLink(realm, place);
                if (link < 0) {
                    break;
                }
                if (realm.linkBridge[link] >= 0) {
                    bridges[bridgeCount] = realm.linkBridge[link];
                    bridgeCount++;
                }
                place = walker.farEnd(realm, link, place);
                stops[stopCount] = place;
                stopCount++;
            }
        }
    }

    /** Reckons what carts owe under the law that it was opened with. */
    private static final class Exchequer {
        final Sitting sitting;
        final Walker walker = new Walker();
        private final Court court;
        private Realm realm;

        Exchequer(Realm first) {
            realm = first;
            sitting = new Sitting(first);
            court = new Court(sitting);
        }

        void open(Realm ofRealm, int law) {
            realm = ofRealm;
            sitting.open(ofRealm, law);
        }

        Reach reachFrom(int place, int day) {
            sitting.sit(day);
            court.reach.from(sitting, place);
            return court.reach;
        }

        private void hearOwner(int cart) {
            int man = realm.ofCart(cart, OF_MAN);
            court.hear(cart, realm.manPlace[man], realm.manSince[man]);
        }

        int owedAt(int cart, int bridge, int day) {
            sitting.sit(day);
            hearOwner(cart);
            return court.owedAt(bridge);
        }

        int winner(int cart, int take, int day) {
            sitting.sit(day);
            hearOwner(cart);
            return court.winner(take);
        }

        /** The least that is owed over all choices of days, or the most. */
        int extreme(int cart, int bridge, int day, boolean most) {
            int found = owedAt(cart, bridge, day);
            for (int i = 1; i < MOST_CHOICES && sitting.nextChoice(); i++) {
                hearOwner(cart);
                int owed = court.owedAt(bridge);
                found = most ? Math.max(found, owed) : Math.min(found, owed);
            }
            return found;
        }

        /** What a cart owes on its cheapest way in the name of one of a place; NONE without a way. */
        int owedOnWay(int cart, int place, int since) {
            sitting.sit(realm.ofCart(cart, ON_DAY));
            court.hear(cart, place, since);
            walker.measure(realm, court, realm.ofCart(cart, TO));
            int whole = walker.rest[realm.ofCart(cart, FROM)];
            return whole >= FAR ? NONE : whole / OWES_UNIT;
        }

        int owedByOwner(int cart) {
            int man = realm.ofCart(cart, OF_MAN);
            return owedOnWay(cart, realm.manPlace[man], realm.manSince[man]);
        }

        /** The man in whose name least is owed; NONE without a way. */
        int cheapestMan(int cart) {
            int best = realm.ofCart(cart, OF_MAN);
            int least = owedByOwner(cart);
            if (least < 0) {
                return NONE;
            }
            for (int man = 0; man < realm.counts[MAN]; man++) {
                int owed = owedOnWay(cart, realm.manPlace[man], realm.manSince[man]);
                if (owed < least) {
                    least = owed;
                    best = man;
                }
            }
            return best;
        }

        int allCoin() {
            int sum = 0;
            for (int cart = 0; cart < realm.counts[CART]; cart++) {
                int man = realm.ofCart(cart, OF_MAN);
                sum += Math.max(0, owedOnWay(cart, realm.manPlace[man], realm.manSince[man]));
            }
            return sum;
        }

        /** The most coin less the least over a grant's days, all others' being their first. */
        int moved(int grant) {
            int first = realm.firstDay[grant];
            int least = allCoin();
            int most = least;
            for (int day = first + 1; day <= realm.lastDay[grant]; day++) {
                sitting.days[grant] = day;
                int sum = allCoin();
                least = Math.min(least, sum);
                most = Math.max(most, sum);
            }
            sitting.days[grant] = first;
            return most - least;
        }

        /** The first grant with a span that moves most coin; NONE if none has one. */
        int greatestMover() {
            int best = NONE;
            int most = NONE;
            for (int g = 0; g < GRANTS; g++) {
                if (realm.lastDay[g] > realm.firstDay[g]) {
                    int coins = moved(g);
                    if (coins > most) {
                        most = coins;
                        best = g;
                    }
                }
            }
            return best;
        }
    }
}
