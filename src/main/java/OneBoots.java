import java.util.Arrays;

/** One pair of boots on a lane of wet places, and the brothers who share it; see README.md. */
public final class OneBoots {
    public static final int NONE = -1;

    private static final int REFUSED = -2;
    private static final int NO_RELAY = -3;
    private static final int NO_FEET_ASKED = -3;
    private static final int NO_SECOND = -100000;
    private static final int RULES_MOST = 6;
    private static final int IMAGES_MOST = 4;
    private static final int LAST_HOUR = 23;
    private static final int LAST_DAY = 999;
    private static final int COBBLING = 10;

    private final Tape tape = new Tape();
    private final RuleReader ruleReader = new RuleReader();
    private final Rule[] rules = new Rule[RULES_MOST];
    private final Image[] images = new Image[IMAGES_MOST];
    private final World now = new World();
    private final Past past = new Past();
    private final Prints prints = new Prints();
    private final Hours hours = new Hours();
    private final Trials trials = new Trials();
    private final Relays relays = new Relays();
    // A lane of no PLACES stands for none, so that no reference is ever missing.
    private final Lane laneNow = hours.lane;
    private final Lane laneRead = new Lane();
    private int ruleCount = 0;
    private int inForce = NONE;
    private int x = 0;

    public OneBoots() {
    }

    public int feed(int a, int b, int c, int d, int e) {
        if (tape.length + 20 > Tape.MOST) {
            return NONE;
        }
        tape.add(a);
        tape.add(b);
        tape.add(c);
        tape.add(d);
        tape.add(e);
        return tape.length;
    }

    public int end(int n) {
        if (n < 0 || n > tape.length) {
            return NONE;
        }
        tape.length = n;
        return n;
    }

    public int lane() {
        boolean good = laneRead.read(tape);
        tape.length = 0;
        if (!good) {
            return -2 - tape.fault;
        }
        laneNow.copyFrom(laneRead);
        now.begin(laneNow);
        prints.number = 0;
        past.number = 0;
        return laneNow.brothers;
    }

    public int rule() {
        if (ruleCount >= RULES_MOST) {
            return NONE;
        }
        boolean good = ruleReader.read(tape);
        tape.length = 0;
        if (!good) {
            return -2 - tape.fault;
        }
        rules[ruleCount] = ruleReader.made();
        ruleCount++;
        return ruleCount - 1;
    }

    public int force(int rule) {
        if (rule < NONE || rule >= ruleCount) {
            return REFUSED;
        }
        int was = inForce;
        inForce = rule;
        return was;
    }

    public int brother(int brother, int what) {
        if (!isBrother(brother)) {
            return NONE;
        }
        switch (what) {
            case 0: return now.cells[World.PLACE + brother];
            case 1: return laneNow.home[brother];
            case 2: return laneNow.sizes[brother];
            case 3: return now.cells[World.CHILL + brother];
            case 4: return now.cells[World.FROZEN + brother];
            case 5: return now.bootBitsOf(brother);
            case 6: return now.cells[World.EARNED + brother];
            case 7: return laneNow.goalOf(brother, now.cells[World.HOUR]);
            default: return NONE;
        }
    }

    public int boot(int boot, int what) {
        if (!isBoot(boot)) {
            return REFUSED;
        }
        switch (what) {
            case 0: return now.cells[World.WEARER + boot];
            case 1: return now.placeOfBoot(boot);
            case 2: return now.cells[World.WORN + boot];
            case 3: return now.cells[World.WORN + boot] >= laneNow.sole ? 1 : 0;
            default: return REFUSED;
        }
    }

    public int wet(int place) {
        return isPlace(place) ? laneNow.wet[place] : NONE;
    }

    public int hour() {
        boolean over = now.cells[World.HOUR] >= LAST_HOUR && now.cells[World.DAY] >= LAST_DAY;
        if (!hasLane() || over) {
            return NONE;
        }
        past.keep(now);
        return readyHours().pass(now, false);
    }

    public int wear(int boot, int brother) {
        if (!isBoot(boot) || !isBrother(brother) || !laneNow.fits(brother)) {
            return REFUSED;
        }
        int wearer = now.cells[World.WEARER + boot];
        if (wearer == brother || now.placeOfBoot(boot) != now.cells[World.PLACE + brother]) {
            return REFUSED;
        }
        past.keep(now);
        now.cells[World.WEARER + boot] = brother;
        return wearer;
    }

    public int off(int boot) {
        if (!isBoot(boot) || now.cells[World.WEARER + boot] == NONE) {
            return NONE;
        }
        past.keep(now);
        int place = now.placeOfBoot(boot);
        now.cells[World.WEARER + boot] = NONE;
        now.cells[World.LIES + boot] = place;
        return place;
    }

    public int cobble(int boot) {
        int unspent = now.allEarned() - now.cells[World.SPENT];
        if (!isBoot(boot) || now.cells[World.WORN + boot] == 0 || unspent < COBBLING) {
            return NONE;
        }
        past.keep(now);
        now.cells[World.WORN + boot] = 0;
        now.cells[World.SPENT] += COBBLING;
        return unspent - COBBLING;
    }

    public int undo() {
        return past.giveBack(now) ? past.number : NONE;
    }

    public int ahead(int brother, int n, int what) {
        if (!isBrother(brother) || n < 0 || n > 96 || what < 0 || what > 2) {
            return NONE;
        }
        World then = trials.after(readyHours(), now, n);
        switch (what) {
            case 0: return then.cells[World.PLACE + brother];
            case 1: return then.cells[World.CHILL + brother];
            default: return then.cells[World.EARNED + brother];
        }
    }

    public int lend(int n, int what) {
        if (!hasLane() || !isLending(n) || what < 0 || what > 1) {
            return REFUSED;
        }
        int most = trials.mostLent(readyHours(), now, n, NONE);
        return what == 0 ? trials.who : most;
    }

    public int worth(int brother, int n) {
        if (!isBrother(brother) || !isLending(n)) {
            return NONE;
        }
        Hours ready = readyHours();
        return trials.mostLent(ready, now, n, NONE) - trials.mostLent(ready, now, n, brother);
    }

    public int bids(int n) {
        if (!hasLane() || !isLending(n)) {
            return NONE;
        }
        return trials.secondBid(readyHours(), now, n);
    }

    public int relay(int n, int what) {
        if (!hasLane() || n < 1 || n > Relays.MOST || what < 0 || what > Relays.MOST) {
            return NO_RELAY;
        }
        if (what > n) {
            return -2;
        }
        relays.find(readyHours(), now, n);
        return what == 0 ? relays.most : relays.names[what - 1];
    }

    public int print(int n, int place, int boots, boolean is) {
        if (n == NONE) {
            prints.number = 0;
            return 0;
        }
        boolean fits = isHourOfAll(n) && isPlace(place) && boots >= 0 && boots <= 2;
        if (!fits || prints.number >= Prints.MOST) {
            return REFUSED;
        }
        prints.add(n, place, boots, is);
        return prints.number;
    }

    public int feet(int what) {
        if (!hasLane() || what < 0 || what > 1) {
            return NO_FEET_ASKED;
        }
        int feet = trials.agreeing(readyHours(), prints);
        if (what == 0) {
            return Integer.bitCount(feet);
        }
        return feet == 0 ? -2 : trials.who;
    }

    public int look(int n, int what) {
        if (!hasLane() || !isHourOfAll(n) || what < 0 || what > 1) {
            return NONE;
        }
        Hours ready = readyHours();
        int feet = trials.agreeing(ready, prints);
        if (feet == 0) {
            return -2;
        }
        int alike = trials.fewestAlike(ready, feet, n);
        return what == 0 ? trials.who : alike;
    }

    public int cobbler(int boot, int n, int w, int c, int f, int what) {
        boolean fits = isBoot(boot) && n >= 1 && n <= Trials.DAYS_MOST && what >= 0 && what <= 1;
        if (!fits || !isUpTo99(w) || !isUpTo99(c) || !isUpTo99(f)) {
            return REFUSED;
        }
        int cost = trials.leastCost(laneNow.sole, now.cells[World.WORN + boot], n, w, c, f);
        return what == 0 ? cost : trials.who;
    }

    public int second(int size, int n, int what) {
        if (!hasLane() || size < 0 || size > 9 || !isLending(n) || what < 0 || what > 1) {
            return NO_SECOND;
        }
        int more = trials.bySecond(readyHours(), now, size, n);
        return what == 0 ? more : trials.who;
    }

    public int seed(int x) {
        if (x < 0) {
            return NONE;
        }
        int was = this.x;
        this.x = x;
        return was;
    }

    public int winters(int m, int n, int p, int what) {
        boolean often = m >= 1 && m <= 10 && n >= 1 && n <= 72;
        if (!hasLane() || !often || p < 0 || p > 100 || what < 0 || what > 1) {
            return NONE;
        }
        Hours ready = readyHours();
        trials.draw = x;
        int earned = 0;
        for (int i = 0; i < m; i++) {
            earned += trials.winter(ready, now, n, p);
        }
        return what == 0 ? earned : ready.froze;
    }

    public int count(int what) {
        switch (what) {
            case 0: return laneNow.places;
            case 1: return hasLane() ? laneNow.size : NONE;
            case 2: return laneNow.brothers;
            case 3: return laneNow.frosts;
            case 4: return laneNow.wants;
            case 5: return ruleCount;
            case 6: return inForce;
            case 7: return now.cells[World.HOUR];
            case 8: return now.cells[World.DAY];
            case 9: return now.allEarned();
            case 10: return now.cells[World.SPENT];
            case 11: return prints.number;
            case 12: return past.number;
            case 13: return x;
            case 14: return tape.length;
            case 15: return hasLane() ? laneNow.sole : NONE;
            default: return NONE;
        }
    }

    public int image(int k) {
        if (k < 0 || k >= IMAGES_MOST) {
            return NONE;
        }
        Image image = images[k];
        if (image == null) {
            image = new Image();
            images[k] = image;
        }
        image.lane.copyFrom(laneNow);
        image.world.copyFrom(now);
        image.prints.copyFrom(prints);
        image.inForce = inForce;
        image.x = x;
        return now.cells[World.DAY];
    }

    public int back(int k) {
        if (k < 0 || k >= IMAGES_MOST) {
            return NONE;
        }
        Image image = images[k];
        if (image == null) {
            return NONE;
        }
        laneNow.copyFrom(image.lane);
        now.copyFrom(image.world);
        prints.copyFrom(image.prints);
        inForce = image.inForce;
        x = image.x;
        past.number = 0;
        return now.cells[World.DAY];
    }

    private boolean hasLane() {
        return laneNow.places > 0;
    }

    private boolean isBrother(int brother) {
        return brother >= 0 && brother < laneNow.brothers;
    }

    private boolean isPlace(int place) {
        return place >= 0 && place < laneNow.places;
    }

    private boolean isBoot(int boot) {
        return hasLane() && boot >= 0 && boot < World.BOOTS;
    }

    private static boolean isLending(int n) {
        return n >= 1 && n <= 24;
    }

    private static boolean isHourOfAll(int n) {
        return n >= 0 && n <= 47;
    }

    private static boolean isUpTo99(int n) {
        return n >= 0 && n <= 99;
    }

    private Hours readyHours() {
        boolean ruled = inForce >= 0 && inForce < ruleCount;
        hours.rule = ruled ? rules[inForce] : null;
        hours.second = NONE;
        hours.froze = 0;
        return hours;
    }

    /** The bytes that were fed, read as words, numbers and signs; it keeps the FAULT of a reading. */
    private static final class Tape {
        static final int MOST = 400;
        static final int END = 0;
        static final int WORD = 1;
        static final int NUMBER = 2;
        static final int SIGN = 3;
        static final int DIGITS_MOST = 5;
        // Put on < or > when = follows at once, so that both are one sign.
        static final int WITH_EQUALS = 256;

        final byte[] bytes = new byte[MOST];
        int length = 0;
        int fault = 0;
        int kind = END;
        int start = 0;
        int stop = 0;
        int value = 0;

        void add(int four) {
            for (int shift = 24; shift >= 0; shift -= 8) {
                if (length < MOST) {
                    bytes[length] = (byte) (four >> shift);
                    length++;
                }
            }
        }

        void open() {
            fault = 0;
            stop = 0;
            next();
        }

        void next() {
            start = runEnd(stop, ' ', ' ');
            stop = start;
            value = 0;
            if (start >= length) {
                kind = END;
                return;
            }
            int first = bytes[start] & 255;
            if (first >= 'a' && first <= 'z') {
                kind = WORD;
                stop = runEnd(start, 'a', 'z');
            } else if (first >= '0' && first <= '9') {
                kind = NUMBER;
                stop = runEnd(start, '0', '9');
                for (int i = start; i < stop && i < start + DIGITS_MOST; i++) {
                    value = value * 10 + bytes[i] - '0';
                }
            } else {
                kind = SIGN;
                stop = start + 1;
                value = first;
                if ((first == '<' || first == '>') && stop < length && bytes[stop] == '=') {
                    stop++;
                    value += WITH_EQUALS;
                }
            }
        }

        private int runEnd(int from, char least, char most) {
            int i = from;
            while (i < length && bytes[i] >= least && bytes[i] <= most) {
                i++;
            }
            return i;
        }

        boolean isSign(int sign) {
            return kind == SIGN && value == sign;
        }

        boolean isTooLong() {
            return stop - start > DIGITS_MOST;
        }

        /** Which one of the words of a list (a blank between two) stands here; NONE of them. */
        int wordIn(String list) {
            if (kind != WORD) {
                return NONE;
            }
            int number = 0;
            int from = 0;
            for (int i = 0; i <= list.length(); i++) {
                if (i == list.length() || list.charAt(i) == ' ') {
                    if (isPart(list, from, i)) {
                        return number;
                    }
                    number++;
                    from = i + 1;
                }
            }
            return NONE;
        }

        private boolean isPart(String list, int from, int to) {
            if (to - from != stop - start) {
                return false;
            }
            for (int i = from; i < to; i++) {
                if (bytes[start + i - from] != list.charAt(i)) {
                    return false;
                }
            }
            return true;
        }

        boolean fail(int faultKind) {
            fault = 1 + 8 * start + faultKind;
            return false;
        }
    }

    /** What the text of a LANE tells. */
    private static final class Lane {
        static final int PLACES_MOST = 10;
        static final int BROTHERS_MOST = 6;
        private static final int FROSTS_MOST = 4;
        private static final int WANTS_MOST = 10;
        private static final int CLAUSES_MOST = 40;
        private static final String CLAUSES = "lane brother wet frost want sole boots";
        private static final int LANE = 0;
        private static final int BROTHER = 1;
        private static final int WET = 2;
        private static final int FROST = 3;
        private static final int WANT = 4;
        private static final int SOLE = 5;

        final int[] wet = new int[PLACES_MOST];
        final int[] home = new int[BROTHERS_MOST];
        final int[] sizes = new int[BROTHERS_MOST];
        // Two of a FROST: the first HOUR, the last.
        final int[] frostRows = new int[2 * FROSTS_MOST];
        // Four of a WANT: BROTHER, PLACE, HOUR, PAY.
        final int[] wantRows = new int[4 * WANTS_MOST];
        private final int[] numbers = new int[4];
        int places = 0;
        int size = 0;
        int sole = 0;
        int bootsAt = 0;
        int brothers = 0;
        int frosts = 0;
        int wants = 0;

        void copyFrom(Lane other) {
            System.arraycopy(other.wet, 0, wet, 0, wet.length);
            System.arraycopy(other.home, 0, home, 0, home.length);
            System.arraycopy(other.sizes, 0, sizes, 0, sizes.length);
            System.arraycopy(other.frostRows, 0, frostRows, 0, frostRows.length);
            System.arraycopy(other.wantRows, 0, wantRows, 0, wantRows.length);
            places = other.places;
            size = other.size;
            sole = other.sole;
            bootsAt = other.bootsAt;
            brothers = other.brothers;
            frosts = other.frosts;
            wants = other.wants;
        }

        boolean fits(int brother) {
            return sizes[brother] <= size;
        }

        boolean hasFrost(int hour) {
            for (int i = 0; i < frosts; i++) {
                if (frostRows[2 * i] <= hour && hour <= frostRows[2 * i + 1]) {
                    return true;
                }
            }
            return false;
        }

        /** The row of a BROTHER's next WANT; NONE if he has none left. */
        int nextWant(int brother, int hour) {
            int best = NONE;
            int bestHour = LAST_HOUR + 1;
            for (int i = 0; i < wants; i++) {
                int wantHour = wantRows[4 * i + 2];
                if (wantRows[4 * i] == brother && wantHour >= hour && wantHour < bestHour) {
                    best = i;
                    bestHour = wantHour;
                }
            }
            return best;
        }

        int goalOf(int brother, int hour) {
            int want = nextWant(brother, hour);
            return want < 0 ? home[brother] : wantRows[4 * want + 1];
        }

        /** Whether the TAPE is a LANE, which this one is then; else the TAPE has the FAULT. */
        boolean read(Tape tape) {
            clear();
            tape.open();
            for (int clauses = 0; clauses <= CLAUSES_MOST; clauses++) {
                int clause = tape.wordIn(CLAUSES);
                if (clause < 0) {
                    return tape.fail(0);
                }
                if (clauses == CLAUSES_MOST || !mayStand(clause, clauses == 0)) {
                    return tape.fail(4);
                }
                tape.next();
                if (!readClause(tape, clause)) {
                    return false;
                }
                if (!tape.isSign(';')) {
                    fillUntold();
                    return tape.kind == Tape.END || tape.fail(0);
                }
                tape.next();
            }
            return false;
        }

        private void clear() {
            Arrays.fill(wet, 0);
            places = 0;
            size = 0;
            sole = NONE;
            bootsAt = NONE;
            brothers = 0;
            frosts = 0;
            wants = 0;
        }

        private void fillUntold() {
            sole = sole == NONE ? 30 : sole;
            bootsAt = bootsAt == NONE ? 0 : bootsAt;
        }

        private boolean mayStand(int clause, boolean first) {
            if (first || clause == LANE) {
                return first && clause == LANE;
            }
            switch (clause) {
                case BROTHER: return brothers < BROTHERS_MOST;
                case WET: return true;
                case FROST: return frosts < FROSTS_MOST;
                case WANT: return wants < WANTS_MOST;
                case SOLE: return sole == NONE;
                default: return bootsAt == NONE;
            }
        }

        private boolean readClause(Tape tape, int clause) {
            switch (clause) {
                case LANE: return readLane(tape);
                case BROTHER: return readBrother(tape);
                case WET: return readWet(tape);
                case FROST: return readFrost(tape);
                case WANT: return readWant(tape);
                case SOLE:
                    if (!number(tape, 0, 1, 99)) {
                        return false;
                    }
                    sole = numbers[0];
                    return true;
                default:
                    if (!number(tape, 0, 0, places - 1)) {
                        return false;
                    }
                    bootsAt = numbers[0];
                    return true;
            }
        }

        private boolean readLane(Tape tape) {
            if (!number(tape, 0, 2, PLACES_MOST) || !number(tape, 1, 0, 9)) {
                return false;
            }
            places = numbers[0];
            size = numbers[1];
            return true;
        }

        private boolean readBrother(Tape tape) {
            if (!number(tape, 0, 0, places - 1) || !number(tape, 1, 0, 9)) {
                return false;
            }
            home[brothers] = numbers[0];
            sizes[brothers] = numbers[1];
            brothers++;
            return true;
        }

        private boolean readWet(Tape tape) {
            if (!number(tape, 0, 0, places - 1) || !number(tape, 1, 0, 9)) {
                return false;
            }
            wet[numbers[0]] = numbers[1];
            return true;
        }

        private boolean readFrost(Tape tape) {
            if (!number(tape, 0, 0, LAST_HOUR) || !number(tape, 1, numbers[0], LAST_HOUR)) {
                return false;
            }
            frostRows[2 * frosts] = numbers[0];
            frostRows[2 * frosts + 1] = numbers[1];
            frosts++;
            return true;
        }

        private boolean readWant(Tape tape) {
            boolean good = number(tape, 0, 0, brothers - 1)
                    && number(tape, 1, 0, places - 1)
                    && number(tape, 2, 0, LAST_HOUR)
                    && number(tape, 3, 1, 50);
            if (!good) {
                return false;
            }
            System.arraycopy(numbers, 0, wantRows, 4 * wants, 4);
            wants++;
            return true;
        }

        private boolean number(Tape tape, int to, int least, int most) {
            if (tape.kind != Tape.NUMBER) {
                return tape.fail(0);
            }
            if (tape.isTooLong() || tape.value < least || tape.value > most) {
                return tape.fail(1);
            }
            numbers[to] = tape.value;
            tape.next();
            return true;
        }
    }

    /** A RULE as steps on a stack of numbers: of each CLAUSE those of its SUM, then those of its TEST. */
    private static final class Rule {
        static final String WORDS =
                "brother place home size hour day goal pay until wet frost boots chill others lying";
        static final int WORDS_MOST = 15;
        // A step's lowest bits: a WORD's number, or one of these; above them a NUMBER's value.
        static final int STEP_BITS = 5;
        static final int STEP_MASK = 31;
        static final int NUMBER = 15;
        static final int NOT = 16;
        static final int ADD = 17;
        static final int SUBTRACT = 18;
        static final int MULTIPLY = 19;
        static final int DIVIDE = 20;
        static final int REST = 21;
        static final int BELOW = 22;
        static final int AT_MOST = 23;
        static final int SAME = 24;
        static final int AT_LEAST = 25;
        static final int ABOVE = 26;
        static final int AND = 27;
        static final int OR = 28;
        // Ten levels of brackets hold two each, the SUMS of the innermost FACT four.
        static final int STACK_MOST = 40;

        final int[] steps;
        // Two of a CLAUSE: where its SUM ends, where its TEST ends (the same: it has none).
        final int[] ends;

        Rule(int[] steps, int[] ends) {
            this.steps = steps;
            this.ends = ends;
        }

        long way(long[] words, long[] stack) {
            int from = 0;
            for (int i = 0; i + 1 < ends.length; i += 2) {
                int sumEnd = ends[i];
                int testEnd = ends[i + 1];
                if (sumEnd == testEnd || run(sumEnd, testEnd, words, stack) != 0) {
                    return run(from, sumEnd, words, stack);
                }
                from = testEnd;
            }
            return 0;
        }

        private long run(int from, int to, long[] words, long[] stack) {
            int top = 0;
            for (int i = from; i < to; i++) {
                int step = steps[i] & STEP_MASK;
                if (step <= NUMBER) {
                    if (top >= stack.length) {
                        return 0;
                    }
                    stack[top] = step == NUMBER ? steps[i] >> STEP_BITS : words[step];
                    top++;
                } else if (step == NOT) {
                    if (top < 1) {
                        return 0;
                    }
                    stack[top - 1] = 1 - stack[top - 1];
                } else {
                    if (top < 2) {
                        return 0;
                    }
                    top--;
                    stack[top - 1] = joined(step, stack[top - 1], stack[top]);
                }
            }
            return top == 1 ? stack[0] : 0;
        }

        private static long joined(int step, long a, long b) {
            switch (step) {
                case ADD: return a + b;
                case SUBTRACT: return a - b;
                case MULTIPLY: return a * b;
                case DIVIDE: return b == 0 ? 0 : a / b;
                case REST: return b == 0 ? 0 : a % b;
                case BELOW: return a < b ? 1 : 0;
                case AT_MOST: return a <= b ? 1 : 0;
                case SAME: return a == b ? 1 : 0;
                case AT_LEAST: return a >= b ? 1 : 0;
                case ABOVE: return a > b ? 1 : 0;
                case AND: return a & b;
                default: return a | b;
            }
        }
    }

    private static final class RuleReader {
        private static final int CLAUSES_MOST = 12;
        private static final int DEPTH_MOST = 10;
        private static final int PARTS_MOST = 60;

        // Each step stands for at least one byte of the text, so there are never more than its bytes.
        private final int[] steps = new int[Tape.MOST];
        private final int[] ends = new int[2 * CLAUSES_MOST];
        private int stepCount = 0;
        private int clauseCount = 0;
        private int partCount = 0;

        Rule made() {
            return new Rule(Arrays.copyOf(steps, stepCount), Arrays.copyOf(ends, 2 * clauseCount));
        }

        boolean read(Tape tape) {
            stepCount = 0;
            partCount = 0;
            tape.open();
            for (int clauses = 0; clauses <= CLAUSES_MOST; clauses++) {
                if (tape.wordIn("walk") < 0) {
                    return tape.fail(0);
                }
                if (clauses == CLAUSES_MOST) {
                    return tape.fail(4);
                }
                tape.next();
                if (!sum(tape)) {
                    return false;
                }
                ends[2 * clauses] = stepCount;
                if (tape.wordIn("if") == 0) {
                    tape.next();
                    if (!test(tape, 0)) {
                        return false;
                    }
                }
                ends[2 * clauses + 1] = stepCount;
                clauseCount = clauses + 1;
                if (!tape.isSign(';')) {
                    return tape.kind == Tape.END || tape.fail(0);
                }
                tape.next();
            }
            return false;
        }

        /** FACTS with and and or between them; and binds first, so an or waits till its second PART is whole. */
        private boolean test(Tape tape, int depth) {
            if (!fact(tape, depth)) {
                return false;
            }
            boolean waits = false;
            for (int i = 0; i < Tape.MOST; i++) {
                int word = tape.wordIn("and or");
                if (word != 0 && waits) {
                    put(Rule.OR);
                }
                if (word < 0) {
                    return true;
                }
                tape.next();
                if (!fact(tape, depth)) {
                    return false;
                }
                if (word == 0) {
                    put(Rule.AND);
                } else {
                    waits = true;
                }
            }
            return false;
        }

        private boolean fact(Tape tape, int depth) {
            boolean isNot = tape.wordIn("not") == 0;
            if (isNot || tape.isSign('[')) {
                return inner(tape, depth, isNot);
            }
            if (!sum(tape)) {
                return false;
            }
            int step = comparing(tape);
            if (step < 0) {
                return tape.fail(0);
            }
            if (!oneMorePart(tape)) {
                return false;
            }
            tape.next();
            if (!sum(tape)) {
                return false;
            }
            put(step);
            return true;
        }

        private boolean inner(Tape tape, int depth, boolean isNot) {
            if (depth >= DEPTH_MOST) {
                return tape.fail(2);
            }
            tape.next();
            if (isNot) {
                if (!fact(tape, depth + 1)) {
                    return false;
                }
                put(Rule.NOT);
                return true;
            }
            if (!test(tape, depth + 1)) {
                return false;
            }
            if (!tape.isSign(']')) {
                return tape.fail(0);
            }
            tape.next();
            return true;
        }

        private static int comparing(Tape tape) {
            if (tape.kind != Tape.SIGN) {
                return NONE;
            }
            switch (tape.value) {
                case '<': return Rule.BELOW;
                case '<' + Tape.WITH_EQUALS: return Rule.AT_MOST;
                case '=': return Rule.SAME;
                case '>' + Tape.WITH_EQUALS: return Rule.AT_LEAST;
                case '>': return Rule.ABOVE;
                default: return NONE;
            }
        }

        /** VALUES with signs between them; a + or - waits till its second TERM is whole. */
        private boolean sum(Tape tape) {
            if (!value(tape)) {
                return false;
            }
            int waiting = NONE;
            for (int i = 0; i < Tape.MOST; i++) {
                int step = reckoning(tape);
                boolean inTerm = step >= Rule.MULTIPLY;
                if (!inTerm && waiting >= 0) {
                    put(waiting);
                }
                if (step < 0) {
                    return true;
                }
                tape.next();
                if (!value(tape)) {
                    return false;
                }
                if (inTerm) {
                    put(step);
                } else {
                    waiting = step;
                }
            }
            return false;
        }

        private static int reckoning(Tape tape) {
            if (tape.kind != Tape.SIGN) {
                return NONE;
            }
            switch (tape.value) {
                case '+': return Rule.ADD;
                case '-': return Rule.SUBTRACT;
                case '*': return Rule.MULTIPLY;
                case '/': return Rule.DIVIDE;
                case '%': return Rule.REST;
                default: return NONE;
            }
        }

        private boolean value(Tape tape) {
            int step;
            if (tape.kind == Tape.NUMBER) {
                if (tape.isTooLong()) {
                    return tape.fail(1);
                }
                step = Rule.NUMBER | tape.value << Rule.STEP_BITS;
            } else {
                step = tape.wordIn(Rule.WORDS);
                if (step < 0) {
                    return tape.fail(0);
                }
            }
            if (!oneMorePart(tape)) {
                return false;
            }
            put(step);
            tape.next();
            return true;
        }

        private boolean oneMorePart(Tape tape) {
            partCount++;
            return partCount <= PARTS_MOST || tape.fail(3);
        }

        private void put(int step) {
            if (stepCount < steps.length) {
                steps[stepCount] = step;
                stepCount++;
            }
        }
    }

    /** Who is where, how cold, what is earned and worn; one row of numbers, so that it is copied at once. */
    private static final class World {
        static final int BOOTS = 2;
        static final int PLACE = 0;
        static final int CHILL = 6;
        static final int FROZEN = 12;
        static final int EARNED = 18;
        static final int WEARER = 24;
        // Where a boot lies; free while somebody wears it.
        static final int LIES = 26;
        static final int WORN = 28;
        static final int HOUR = 30;
        static final int DAY = 31;
        static final int SPENT = 32;
        static final int CELLS = 33;

        final int[] cells = new int[CELLS];

        void copyFrom(World other) {
            System.arraycopy(other.cells, 0, cells, 0, CELLS);
        }

        void begin(Lane lane) {
            Arrays.fill(cells, 0);
            System.arraycopy(lane.home, 0, cells, PLACE, lane.brothers);
            for (int k = 0; k < BOOTS; k++) {
                cells[WEARER + k] = NONE;
                cells[LIES + k] = lane.bootsAt;
            }
        }

        /** One wears both from now on; if nobody does, they lie at PLACE 0. */
        void dress(int who) {
            for (int k = 0; k < BOOTS; k++) {
                cells[WEARER + k] = who;
                cells[LIES + k] = 0;
            }
        }

        int placeOfBoot(int boot) {
            int wearer = cells[WEARER + boot];
            return wearer < 0 ? cells[LIES + boot] : cells[PLACE + wearer];
        }

        int bootBitsOf(int brother) {
            int left = cells[WEARER] == brother ? 1 : 0;
            return cells[WEARER + 1] == brother ? left + 2 : left;
        }

        int allEarned() {
            return sumOf(EARNED);
        }

        int allChill() {
            return sumOf(CHILL);
        }

        private int sumOf(int from) {
            int sum = 0;
            for (int b = 0; b < Lane.BROTHERS_MOST; b++) {
                sum += cells[from + b];
            }
            return sum;
        }
    }

    /** The worlds ahead of the last ACTS, in a ring. */
    private static final class Past {
        private static final int MOST = 20;

        private final int[] rows = new int[MOST * World.CELLS];
        private int next = 0;
        int number = 0;

        void keep(World world) {
            System.arraycopy(world.cells, 0, rows, next * World.CELLS, World.CELLS);
            next = (next + 1) % MOST;
            number = Math.min(number + 1, MOST);
        }

        boolean giveBack(World world) {
            if (number == 0) {
                return false;
            }
            number--;
            next = (next + MOST - 1) % MOST;
            System.arraycopy(rows, next * World.CELLS, world.cells, 0, World.CELLS);
            return true;
        }
    }

    private static final class Prints {
        static final int MOST = 10;

        // Four of a PRINT: the HOUR of all, PLACE, boots, 1 if somebody did.
        final int[] rows = new int[4 * MOST];
        int number = 0;

        void add(int n, int place, int boots, boolean is) {
            if (number < MOST) {
                rows[4 * number] = n;
                rows[4 * number + 1] = place;
                rows[4 * number + 2] = boots;
                rows[4 * number + 3] = is ? 1 : 0;
                number++;
            }
        }

        void copyFrom(Prints other) {
            System.arraycopy(other.rows, 0, rows, 0, rows.length);
            number = other.number;
        }

        int lastHour() {
            int last = 0;
            for (int i = 0; i < number; i++) {
                last = Math.max(last, rows[4 * i]);
            }
            return last;
        }

        /** Whether all that is told of the n-th HOUR is so in a world. */
        boolean agree(World world, int brothers, int n) {
            for (int i = 0; i < number; i++) {
                if (rows[4 * i] != n) {
                    continue;
                }
                int found = 0;
                for (int b = 0; b < brothers; b++) {
                    boolean there = world.cells[World.PLACE + b] == rows[4 * i + 1];
                    if (there && Integer.bitCount(world.bootBitsOf(b)) == rows[4 * i + 2]) {
                        found = 1;
                    }
                }
                if (found != rows[4 * i + 3]) {
                    return false;
                }
            }
            return true;
        }
    }

    private static final class Image {
        final Lane lane = new Lane();
        final World world = new World();
        final Prints prints = new Prints();
        int inForce = NONE;
        int x = 0;
    }

    /** How an HOUR passes, on a lane, by a rule. */
    private static final class Hours {
        private static final int WORN_MOST = 999;
        private static final int CHILL_MOST = 99;
        private static final int FREEZING = 60;

        private final long[] words = new long[Rule.WORDS_MOST];
        private final long[] stack = new long[Rule.STACK_MOST];
        final Lane lane = new Lane();
        Rule rule = null;
        // Who wears a second pair, which never gets a HOLE.
        int second = NONE;
        int froze = 0;

        /** An HOUR in a world, with FROST if it is drawn, too: what is earned in it. */
        int pass(World world, boolean drawn) {
            boolean frost = drawn || lane.hasFrost(world.cells[World.HOUR]);
            int earned = pay(world);
            for (int b = 0; b < lane.brothers; b++) {
                if (world.cells[World.FROZEN + b] == 0) {
                    walk(world, b, frost);
                }
            }
            for (int b = 0; b < lane.brothers; b++) {
                chill(world, b, frost);
            }
            turn(world);
            return earned;
        }

        private int pay(World world) {
            int earned = 0;
            int[] wants = lane.wantRows;
            for (int i = 0; i < lane.wants; i++) {
                int b = wants[4 * i];
                boolean there = world.cells[World.PLACE + b] == wants[4 * i + 1];
                boolean nowDue = world.cells[World.HOUR] == wants[4 * i + 2];
                if (there && nowDue && world.cells[World.FROZEN + b] == 0) {
                    world.cells[World.EARNED + b] += wants[4 * i + 3];
                    earned += wants[4 * i + 3];
                }
            }
            return earned;
        }

        private void walk(World world, int b, boolean frost) {
            int place = world.cells[World.PLACE + b];
            int to = place;
            if (rule == null) {
                to += Integer.compare(lane.goalOf(b, world.cells[World.HOUR]), place);
            } else {
                fillWords(world, b, frost);
                to += Long.compare(rule.way(words, stack), 0);
            }
            if (to == place || to < 0 || to >= lane.places) {
                return;
            }
            world.cells[World.PLACE + b] = to;
            for (int k = 0; k < World.BOOTS; k++) {
                if (world.cells[World.WEARER + k] == b) {
                    int worn = world.cells[World.WORN + k] + (frost ? 2 : 1);
                    world.cells[World.WORN + k] = Math.min(worn, WORN_MOST);
                }
            }
        }

        /** The WORDS of a BROTHER, in the order of Rule.WORDS. */
        private void fillWords(World world, int b, boolean frost) {
            int[] cells = world.cells;
            int place = cells[World.PLACE + b];
            int hour = cells[World.HOUR];
            int want = lane.nextWant(b, hour);
            words[0] = b;
            words[1] = place;
            words[2] = lane.home[b];
            words[3] = lane.sizes[b];
            words[4] = hour;
            words[5] = cells[World.DAY];
            words[6] = want < 0 ? lane.home[b] : lane.wantRows[4 * want + 1];
            words[7] = want < 0 ? 0 : lane.wantRows[4 * want + 3];
            words[8] = want < 0 ? 0 : lane.wantRows[4 * want + 2] - hour;
            words[9] = lane.wet[place];
            words[10] = frost ? 1 : 0;
            words[11] = second == b ? 2 : Integer.bitCount(world.bootBitsOf(b));
            words[12] = cells[World.CHILL + b];
            int others = -1;
            for (int i = 0; i < lane.brothers; i++) {
                others += cells[World.PLACE + i] == place ? 1 : 0;
            }
            words[13] = others;
            int lying = 0;
            for (int k = 0; k < World.BOOTS; k++) {
                boolean lies = cells[World.WEARER + k] == NONE && cells[World.LIES + k] == place;
                lying += lies ? 1 : 0;
            }
            words[14] = lying;
        }

        private void chill(World world, int b, boolean frost) {
            int place = world.cells[World.PLACE + b];
            int chill = world.cells[World.CHILL + b];
            if (place == lane.home[b]) {
                world.cells[World.CHILL + b] = Math.max(chill - 4, 0);
                return;
            }
            int wet = frost ? 2 * lane.wet[place] : lane.wet[place];
            chill = Math.min(chill + bareFeet(world, b) * wet, CHILL_MOST);
            world.cells[World.CHILL + b] = chill;
            if (chill >= FREEZING && world.cells[World.FROZEN + b] == 0) {
                world.cells[World.FROZEN + b] = 1;
                froze++;
            }
        }

        private int bareFeet(World world, int b) {
            if (second == b) {
                return 0;
            }
            int bare = 0;
            for (int k = 0; k < World.BOOTS; k++) {
                boolean whole = world.cells[World.WORN + k] < lane.sole;
                if (world.cells[World.WEARER + k] != b || !whole) {
                    bare++;
                }
            }
            return bare;
        }

        private void turn(World world) {
            if (world.cells[World.HOUR] < LAST_HOUR) {
                world.cells[World.HOUR]++;
                return;
            }
            world.cells[World.HOUR] = 0;
            world.cells[World.DAY] = Math.min(world.cells[World.DAY] + 1, LAST_DAY);
            for (int b = 0; b < lane.brothers; b++) {
                world.cells[World.PLACE + b] = lane.home[b];
                world.cells[World.CHILL + b] = 0;
                world.cells[World.FROZEN + b] = 0;
            }
        }
    }

    /** What would be: worlds that are tried, and of which nothing stays. */
    private static final class Trials {
        static final int DAYS_MOST = 30;
        private static final int SEEN_KINDS = 4;
        // Above what all DAYS can cost together.
        private static final int COST_ABOVE_ALL = 1000000;

        private final World trial = new World();
        private final int[] alike = new int[Lane.PLACES_MOST * SEEN_KINDS];
        private final int[] cobbledCost = new int[DAYS_MOST + 1];
        // The one that the last answer is about: a BROTHER, a PLACE, or a DAY.
        int who = NONE;
        int draw = 0;

        World after(Hours hours, World now, int n) {
            trial.copyFrom(now);
            earn(hours, n);
            return trial;
        }

        private int earn(Hours hours, int n) {
            int earned = 0;
            for (int i = 0; i < n; i++) {
                earned += hours.pass(trial, false);
            }
            return earned;
        }

        private void tryLent(World now, int to) {
            trial.copyFrom(now);
            trial.dress(to);
        }

        int mostLent(Hours hours, World now, int n, int without) {
            tryLent(now, NONE);
            int most = earn(hours, n);
            int best = NONE;
            for (int b = 0; b < hours.lane.brothers; b++) {
                if (b == without || !hours.lane.fits(b)) {
                    continue;
                }
                tryLent(now, b);
                int earned = earn(hours, n);
                if (earned > most) {
                    most = earned;
                    best = b;
                }
            }
            who = best;
            return most;
        }

        int secondBid(Hours hours, World now, int n) {
            tryLent(now, NONE);
            int byNobody = earn(hours, n);
            // A bid below 0 answers as 0 does, so both can begin there.
            int greatest = 0;
            int next = 0;
            for (int b = 0; b < hours.lane.brothers; b++) {
                if (hours.lane.fits(b)) {
                    tryLent(now, b);
                    int bid = earn(hours, n) - byNobody;
                    next = Math.max(next, Math.min(bid, greatest));
                    greatest = Math.max(greatest, bid);
                }
            }
            return next;
        }

        int bySecond(Hours hours, World now, int size, int n) {
            trial.copyFrom(now);
            int without = earn(hours, n);
            int most = 0;
            int best = -2;
            for (int b = 0; b < hours.lane.brothers; b++) {
                if (hours.lane.sizes[b] > size || now.bootBitsOf(b) != 0) {
                    continue;
                }
                hours.second = b;
                trial.copyFrom(now);
                int more = earn(hours, n) - without;
                if (best < 0 || more > most) {
                    most = more;
                    best = b;
                }
            }
            hours.second = NONE;
            who = best;
            return most;
        }

        int winter(Hours hours, World now, int n, int p) {
            trial.copyFrom(now);
            int earned = 0;
            for (int i = 0; i < n; i++) {
                // The rest by 2147483648 is what the low 31 bits hold.
                draw = (int) (draw * 1103515245L + 12345L) & 0x7fffffff;
                earned += hours.pass(trial, draw / 65536 % 100 < p);
            }
            return earned;
        }

        /** Those by whom all PRINTS are so: bit 0 for nobody, bit 1 for BROTHER 0, and on; who is the least. */
        int agreeing(Hours hours, Prints prints) {
            int feet = 0;
            for (int b = NONE; b < hours.lane.brothers; b++) {
                if ((b == NONE || hours.lane.fits(b)) && agrees(hours, prints, b)) {
                    who = feet == 0 ? b : who;
                    feet |= 1 << (b + 1);
                }
            }
            return feet;
        }

        private boolean agrees(Hours hours, Prints prints, int wearer) {
            trial.begin(hours.lane);
            trial.dress(wearer);
            int last = prints.lastHour();
            for (int n = 0; n <= last; n++) {
                if (!prints.agree(trial, hours.lane.brothers, n)) {
                    return false;
                }
                if (n < last) {
                    hours.pass(trial, false);
                }
            }
            return true;
        }

        int fewestAlike(Hours hours, int feet, int n) {
            Arrays.fill(alike, 0);
            for (int b = NONE; b < hours.lane.brothers; b++) {
                if ((feet >> (b + 1) & 1) == 1) {
                    trial.begin(hours.lane);
                    trial.dress(b);
                    earn(hours, n);
                    see(hours.lane);
                }
            }
            int fewest = Lane.BROTHERS_MOST + 2;
            for (int place = 0; place < hours.lane.places; place++) {
                int most = 0;
                for (int kind = 0; kind < SEEN_KINDS; kind++) {
                    most = Math.max(most, alike[place * SEEN_KINDS + kind]);
                }
                if (most < fewest) {
                    fewest = most;
                    who = place;
                }
            }
            return fewest;
        }

        /** At each PLACE one of four kinds is seen: nobody, or 0, 1, 2 boots at most. */
        private void see(Lane lane) {
            for (int place = 0; place < lane.places; place++) {
                int kind = 0;
                for (int b = 0; b < lane.brothers; b++) {
                    if (trial.cells[World.PLACE + b] == place) {
                        kind = Math.max(kind, 1 + Integer.bitCount(trial.bootBitsOf(b)));
                    }
                }
                alike[place * SEEN_KINDS + kind]++;
            }
        }

        /** The COBBLER's least cost: from the last DAY back, what all costs from a cobbling ahead of it on. */
        int leastCost(int sole, int worn, int n, int w, int c, int f) {
            if (n < 0 || n > DAYS_MOST) {
                return 0;
            }
            cobbledCost[n] = 0;
            for (int day = n - 1; day >= 0; day--) {
                int next = costUntilCobbled(sole, 0, w, f, day, day + 1, n);
                cobbledCost[day] = c + next;
            }
            return costUntilCobbled(sole, worn, w, f, 0, 0, n);
        }

        /** The least from a DAY on, for a boot so worn, that can be cobbled ahead of the DAY next at first. */
        private int costUntilCobbled(int sole, int wornAhead, int w, int f, int from, int next, int n) {
            int worn = wornAhead;
            int holes = 0;
            int best = COST_ABOVE_ALL;
            for (int day = from; day <= n; day++) {
                // Of two DAYS that cost the same the later one is taken, and never is later than all.
                if (day >= next && holes + cobbledCost[day] <= best) {
                    best = holes + cobbledCost[day];
                    who = day < n ? day : NONE;
                }
                worn += w;
                holes += worn >= sole ? f : 0;
            }
            return best;
        }
    }

    /** Tries all rows of names for a RELAY. */
    private static final class Relays {
        static final int MOST = 4;

        private final World[] worlds = new World[MOST + 1];
        private final int[] row = new int[MOST];
        private boolean found = false;
        private int leastChill = 0;
        final int[] names = new int[MOST];
        int most = 0;

        Relays() {
            for (int i = 0; i <= MOST; i++) {
                worlds[i] = new World();
            }
        }

        void find(Hours hours, World now, int n) {
            worlds[0].copyFrom(now);
            found = false;
            search(hours, n, 0, 0);
        }

        private void search(Hours hours, int n, int depth, int earned) {
            if (depth >= n || depth >= MOST) {
                judge(worlds[depth].allChill(), earned);
                return;
            }
            World next = worlds[depth + 1];
            for (int b = NONE; b < hours.lane.brothers; b++) {
                next.copyFrom(worlds[depth]);
                // A name that moves no boot does what nobody does, and nobody comes first.
                if (b == NONE || hours.lane.fits(b) && takes(next, b)) {
                    row[depth] = b;
                    search(hours, n, depth + 1, earned + hours.pass(next, false));
                }
            }
        }

        private static boolean takes(World world, int b) {
            boolean any = false;
            for (int k = 0; k < World.BOOTS; k++) {
                boolean there = world.placeOfBoot(k) == world.cells[World.PLACE + b];
                if (there && world.cells[World.WEARER + k] != b) {
                    world.cells[World.WEARER + k] = b;
                    any = true;
                }
            }
            return any;
        }

        private void judge(int chill, int earned) {
            if (!found || earned > most || earned == most && chill < leastChill) {
                found = true;
                most = earned;
                leastChill = chill;
                System.arraycopy(row, 0, names, 0, MOST);
            }
        }
    }
}
