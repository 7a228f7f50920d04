/** Farms on lines of posts, their calls through the board, and what they agree on. */
public final class OneWire {
    public static final int NONE = -1, BAD = -2, STATE = -3, FULL = -4;

    /** Answers where all that was asked about is there, but what was asked for is not. */
    private static final int NOTHING = -5, OTHER_KIND = -6, FAULT_ABOVE = -10;

    private static final int LINES = 4, POSTS = 10, MOST_FARMS = 12, BOARD = 12;
    private static final int LAST_DAY = 400, DAY_MINUTES = 100;
    private static final int MOST_SIGNS = 4, MOST_CODED = 5;
    private static final int MOST_RULES = 10, MOST_CLAUSES = 8, TAPE_SIZE = 120;
    private static final int RULE_ROOM = MOST_RULES + 1; // one more, for a rule that is only tried
    private static final int MOST_CALLS = 60, MOST_RINGS = 20, MOST_MAYBES = 10;
    private static final int MOST_PAYMENTS = 60, MOST_MEETINGS = 10, MOST_PARTED = 7;

    private static final int ENDLESS = 1000000; // above all sums of mistakes, signs and waits

    private static final int FIRST = 0, DUES = 1, WORK = 2, LONG = 3, CORDS = 4, TELL = 5, NEAR = 6, WORDS = 7;
    private static final int RING = 1, THROUGH = 2, OUT = 3, ALL = 4, KINDS = 5;
    private static final int WAITING = 0, ON = 1, ENDED = 2, LOST = 3;

    private final World world = new World();
    private final Exchange exchange = new Exchange();
    private final Codes codes = new Codes();
    private final Division division = new Division();
    private World kept = null;

    public OneWire() {
    }

    // ---- farms, codes

    public int farm(int line, int post, int ears) {
        if (!within(line, 0, LINES - 1) || !within(post, 0, POSTS - 1)) return NONE;
        if (!within(ears, 0, 9)) return BAD;
        if (world.farms.size >= MOST_FARMS) return FULL;
        return world.farms.add(line, post, ears, world.today());
    }

    public int code(int farm, int signs, int bits) {
        if (!world.farms.has(farm)) return NONE;
        if (!within(signs, 0, MOST_SIGNS) || !within(bits, 0, (1 << signs) - 1)) return BAD;
        int ahead = world.farms.code[farm];
        world.farms.code[farm] = 16 * signs + bits;
        return ahead;
    }

    public int like(int a, int b) {
        if (!world.farms.has(a) || !world.farms.has(b)) return NONE;
        if (a == b) return BAD;
        return Codes.mistaken(world.farms.code[a], world.farms.code[b]);
    }

    public int mistakes(int line) {
        if (!within(line, 0, LINES - 1)) return NONE;
        return Codes.mistakenOnLine(world.farms, line);
    }

    public int best(int line, int n, int i) {
        if (!within(line, 0, LINES - 1)) return NONE;
        int farms = Math.min(MOST_CODED, Integer.bitCount(world.farms.onLine(line)));
        if (!within(i, -1, farms - 1)) return NONE;
        if (!within(n, 1, 3)) return BAD;
        if (!codes.search(farms, n)) return NOTHING;
        return i < 0 ? codes.least : codes.best[i];
    }

    // ---- rules

    public int feed(long w, int n) {
        if (!within(n, 1, 8)) return BAD;
        if (world.rules.tape.size + n > TAPE_SIZE) return FULL;
        return world.rules.tape.take(w, n);
    }

    public int text(int day) {
        if (!within(day, 0, LAST_DAY)) return BAD;
        if (world.rules.size >= MOST_RULES) return FULL;
        int fault = world.rules.readTape();
        return fault >= 0 ? FAULT_ABOVE - fault : world.rules.keep(day);
    }

    public int force(int word, int call, int day) {
        if (!hasWord(word, call)) return NONE;
        if (!within(day, 0, LAST_DAY)) return BAD;
        return world.ruled(word, call, day);
    }

    public int why(int word, int call, int day) {
        if (!hasWord(word, call)) return NONE;
        if (!within(day, 0, LAST_DAY)) return BAD;
        world.regard(call);
        int clause = world.rules.ruling(word, day);
        return clause < 0 ? NOTHING : 100 * (clause / MOST_CLAUSES) + clause % MOST_CLAUSES;
    }

    // ---- calls

    public int ring(int from, int to, int minutes) {
        if (!world.farms.has(from) || !world.farms.has(to)) return NONE;
        if (from == to || !mayLast(minutes)) return BAD;
        if (world.calls.size >= MOST_CALLS) return FULL;
        int kind = world.farms.line[from] == world.farms.line[to] ? RING : THROUGH;
        return world.calls.add(world.farms, kind, from, to, minutes, world.now);
    }

    public int call(int kind, int from, int minutes) {
        if (!world.farms.has(from) || !within(kind, OUT, ALL)) return NONE;
        if (!mayLast(minutes)) return BAD;
        if (world.calls.size >= MOST_CALLS) return FULL;
        return world.calls.add(world.farms, kind, from, BOARD, minutes, world.now);
    }

    public int of(int call, int what) {
        if (!world.calls.has(call)) return NONE;
        switch (what) {
            case 0: return world.calls.kind[call];
            case 1: return world.calls.state[call];
            case 2: return world.rankOn(call, world.calls.asked[call] / DAY_MINUTES);
            case 3: return world.calls.costs(call);
            case 4: return world.calls.holds(call, world.farms);
            case 5: return world.calls.waited(call, world.now);
            case 6: return world.calls.loud(call, world.farms);
            case 7: return world.isFaint(call) ? 1 : 0;
            default: return NONE;
        }
    }

    public int as(int call, int k) {
        if (!world.calls.has(call) || !within(k, 0, KINDS - 1)) return NONE;
        return Calls.isUnder(world.calls.kind[call], k) ? world.calls.minutes[call] : OTHER_KIND;
    }

    public int minute(int n) {
        if (!within(n, 1, 200) || world.now + n >= (LAST_DAY + 1) * DAY_MINUTES) return BAD;
        exchange.pass(world, n);
        return world.now;
    }

    public int board(int line, int what) {
        if (what == 1) return world.calls.cordsUsed();
        if (what != 0 || !within(line, 0, LINES - 1)) return NONE;
        return world.calls.callOn(line);
    }

    public int listen(int farm, int call) {
        if (!world.farms.has(farm) || !world.calls.has(call)) return NONE;
        if (!world.calls.mayTakeUp(farm, call, world.farms)) return STATE;
        world.calls.tapped[call] |= 1 << farm;
        return Integer.bitCount(world.calls.tapped[call]);
    }

    public int heard(int call) {
        if (!world.calls.has(call)) return NONE;
        return world.calls.hearers(call, world.farms);
    }

    // ---- wires

    public int down(int line, int wire, boolean so) {
        if (!isWire(line, wire)) return NONE;
        return world.wires.turn(line * POSTS + wire, so) ? 1 : 0;
    }

    public int reach(int from, int to) {
        if (!world.farms.has(from) || !world.farms.isEnd(to)) return NONE;
        return (world.farms.way(from, to) & world.wires.down) == 0 ? 1 : 0;
    }

    public int told(int from, int to, boolean could) {
        if (!world.farms.has(from) || !world.farms.isEnd(to)) return NONE;
        if (from == to) return BAD;
        if (world.wires.rings >= MOST_RINGS) return FULL;
        return world.wires.addRing(world.farms.way(from, to), could);
    }

    public int maybe(int line, int wire) {
        if (!isWire(line, wire)) return NONE;
        if (world.wires.isMaybe(line * POSTS + wire)) return STATE;
        if (world.wires.maybes >= MOST_MAYBES) return FULL;
        return world.wires.addMaybe(line * POSTS + wire);
    }

    public int storm(int what) {
        if (!within(what, 0, 1)) return NONE;
        world.wires.explain();
        if (world.wires.rivals == 0) return NOTHING;
        return what == 0 ? world.wires.fewest : world.wires.rivals;
    }

    // ---- dues

    public int pay(int farm, int what, int n) {
        if (!world.farms.has(farm) || !within(what, 0, 1)) return NONE;
        if (!within(n, 1, 999)) return BAD;
        if (world.ledger.size >= MOST_PAYMENTS) return FULL;
        world.ledger.add(farm, what, n, world.today());
        return world.ledger.paid(farm, what);
    }

    public int behind(int farm, int day) {
        if (!world.farms.has(farm)) return NONE;
        if (!within(day, 0, world.today())) return BAD;
        return world.behindOn(farm, day);
    }

    public int since(int farm) {
        if (!world.farms.has(farm)) return NONE;
        return world.behindFrom(farm);
    }

    public int town(int farm, int from, int to) {
        if (!world.farms.has(farm)) return NONE;
        if (!within(from, 0, LAST_DAY) || !within(to, from, LAST_DAY)) return BAD;
        int minutes = world.calls.townMinutes(farm, from, to);
        return 2 * minutes + Math.min(minutes, 10) + Math.min(minutes, 20);
    }

    // ---- parted, meetings

    public int quarrel(int a, int b) {
        if (!world.farms.has(a) || !world.farms.has(b)) return NONE;
        if (a == b) return BAD;
        return world.farms.fallOut(a, b) ? 1 : 0;
    }

    public int divide(int n, int m, int i) {
        if (i != -1 && (i < 0 || i >= n)) return NONE;
        if (!within(n, 1, Math.min(MOST_PARTED, world.farms.size)) || !within(m, 1, 3)) return BAD;
        if (!division.search(world, n, m)) return NOTHING;
        return i < 0 ? division.least : division.best[i];
    }

    public int vote(int came, int fors, int on) {
        if (!within(on, -1, world.meetings.size - 1)) return NONE;
        if (!within(came, 0, (1 << world.farms.size) - 1) || !within(fors, 0, Integer.bitCount(came))) return BAD;
        if (world.meetings.size >= MOST_MEETINGS) return FULL;
        return world.meetings.add(Integer.bitCount(came), fors, on, world.farms.size);
    }

    public int nought(int meeting) {
        if (!within(meeting, 0, world.meetings.size - 1)) return NONE;
        return world.meetings.annul(meeting) ? 1 : 0;
    }

    public int counting() {
        return world.meetings.valid();
    }

    public int tried(int what, int call) {
        if (!within(what, 0, 1) || (what == 0 && !world.calls.has(call))) return NONE;
        int fault = world.rules.readTape();
        if (fault >= 0) return FAULT_ABOVE - fault;
        int day = world.today();
        world.rules.keep(day);
        int answer = what == 0 ? world.rankOn(call, day) : world.tellable(day);
        world.rules.dropLast();
        return answer;
    }

    // ---- the image

    public int image() {
        if (kept == null) kept = new World();
        kept.copyFrom(world);
        return world.now;
    }

    public int undo() {
        if (kept == null) return STATE;
        world.copyFrom(kept);
        return world.now;
    }

    public int count(int what) {
        switch (what) {
            case 0: return world.farms.size;
            case 1: return world.rules.size;
            case 2: return world.calls.size;
            case 3: return world.now;
            case 4: return world.calls.inState(WAITING);
            case 5: return world.calls.inState(ON);
            case 6: return world.calls.inState(LOST);
            case 7: return world.rules.tape.size;
            case 8: return world.meetings.size;
            default: return NONE;
        }
    }

    private static boolean within(int n, int low, int high) {
        return n >= low && n <= high;
    }

    private static boolean isWire(int line, int wire) {
        return within(line, 0, LINES - 1) && within(wire, 0, POSTS - 1);
    }

    private boolean hasWord(int word, int call) {
        return within(word, 0, WORDS - 1) && (!Rules.asksCall(word) || world.calls.has(call));
    }

    private boolean mayLast(int minutes) {
        return within(minutes, 1, Math.min(20, world.ruled(LONG, NONE, world.today())));
    }

    /** All that an image takes, and what needs several parts of it. */
    private static final class World {
        int now = 0;
        final Farms farms = new Farms();
        final Rules rules = new Rules();
        final Calls calls = new Calls();
        final Wires wires = new Wires();
        final Ledger ledger = new Ledger();
        final Meetings meetings = new Meetings();

        int today() {
            return now / DAY_MINUTES;
        }

        void copyFrom(World other) {
            now = other.now;
            farms.copyFrom(other.farms);
            rules.copyFrom(other.rules);
            calls.copyFrom(other.calls);
            wires.copyFrom(other.wires);
            ledger.copyFrom(other.ledger);
            meetings.copyFrom(other.meetings);
        }

        /** What the rules are asked about from here on; no call: of first and tell nothing is asked. */
        void regard(int call) {
            if (!calls.has(call)) return;
            int from = calls.from[call];
            rules.regard(calls.kind[call], farms.lineOf(from), from, calls.to[call], calls.asked[call] % DAY_MINUTES);
        }

        int ruled(int word, int call, int day) {
            regard(call);
            int clause = rules.ruling(word, day);
            if (clause < 0) return Rules.usual(word);
            if (word == TELL) return rules.isTrue(clause) ? 1 : 0;
            return rules.amount[clause];
        }

        int rankOn(int call, int day) {
            int first = ruled(FIRST, call, day);
            int kind = calls.kind[call];
            if (kind == ALL) return first - 20;
            return kind == OUT ? first + 5 : first;
        }

        boolean isFaint(int call) {
            return calls.loud(call, farms) < ruled(NEAR, call, calls.asked[call] / DAY_MINUTES);
        }

        /** How many calls may be told on a day. */
        int tellable(int day) {
            int tellable = 0;
            for (int call = 0; call < calls.size; call++) tellable += ruled(TELL, call, day);
            return tellable;
        }

        /** What falls due on a day, a day of work as 3 coins. */
        int dueOn(int farm, int day) {
            int days = day - farms.came[farm];
            if (days <= 0 || days % 30 != 0) return 0;
            return ruled(DUES, NONE, day - 1) + 3 * ruled(WORK, NONE, day - 1);
        }

        int behindOn(int farm, int day) {
            int behind = 0;
            for (int due = farms.came[farm] + 30; due <= day; due += 30) behind += dueOn(farm, due);
            return behind - ledger.worth(farm, 0, day);
        }

        /** The first day of those up to today on all of which a farm is behind. */
        int behindFrom(int farm) {
            int behind = behindOn(farm, today());
            if (behind <= 0) return NOTHING;
            for (int day = today(); day > 0; day--) {
                behind += ledger.worth(farm, day, day) - dueOn(farm, day);
                if (behind <= 0) return day;
            }
            return 0;
        }
    }

    private static final class Farms {
        int size = 0;
        final int[] line = new int[MOST_FARMS];
        final int[] post = new int[MOST_FARMS];
        final int[] ears = new int[MOST_FARMS];
        final int[] code = new int[MOST_FARMS];
        final int[] came = new int[MOST_FARMS];
        final int[] foes = new int[MOST_FARMS];

        void copyFrom(Farms other) {
            size = other.size;
            System.arraycopy(other.line, 0, line, 0, MOST_FARMS);
            System.arraycopy(other.post, 0, post, 0, MOST_FARMS);
            System.arraycopy(other.ears, 0, ears, 0, MOST_FARMS);
            System.arraycopy(other.code, 0, code, 0, MOST_FARMS);
            System.arraycopy(other.came, 0, came, 0, MOST_FARMS);
            System.arraycopy(other.foes, 0, foes, 0, MOST_FARMS);
        }

        boolean has(int farm) {
            return farm >= 0 && farm < size;
        }

        boolean isEnd(int end) {
            return end == BOARD || has(end);
        }

        int add(int itsLine, int itsPost, int itsEars, int day) {
            if (size >= MOST_FARMS) return FULL;
            line[size] = itsLine;
            post[size] = itsPost;
            ears[size] = itsEars;
            came[size] = day;
            return size++;
        }

        int lineOf(int farm) {
            return has(farm) ? line[farm] : NONE;
        }

        /** The line of a farm as a bit; of the board: none. */
        int lineBit(int end) {
            return has(end) ? 1 << line[end] : 0;
        }

        int earsOf(int farm) {
            return has(farm) ? ears[farm] : 0;
        }

        /** The farms on a line, as bits. */
        int onLine(int which) {
            int bits = 0;
            for (int farm = 0; farm < size; farm++) {
                if (line[farm] == which) bits |= 1 << farm;
            }
            return bits;
        }

        /** The wires between two ends, wire k of a line as bit 10 times the line and k. */
        long way(int from, int to) {
            if (!has(from)) return 0;
            if (!has(to)) return wires(line[from], -1, post[from]);
            if (line[from] == line[to]) {
                return wires(line[from], Math.min(post[from], post[to]), Math.max(post[from], post[to]));
            }
            return wires(line[from], -1, post[from]) | wires(line[to], -1, post[to]);
        }

        /** How many posts a farm is from that on its line which is farthest. */
        int farthest(int farm) {
            int most = 0;
            for (int other = 0; other < size; other++) {
                if (line[other] == lineOf(farm)) most = Math.max(most, Long.bitCount(way(farm, other)));
            }
            return most;
        }

        /** The wires of a line between two posts (-1: the board). */
        private static long wires(int which, int near, int far) {
            return ((1L << (far + 1)) - (1L << (near + 1))) << (which * POSTS);
        }

        boolean fallOut(int a, int b) {
            if (!has(a) || !has(b) || quarrelsWith(a, b)) return false;
            foes[a] |= 1 << b;
            foes[b] |= 1 << a;
            return true;
        }

        boolean quarrelsWith(int a, int b) {
            return (foes[a] >> b & 1) != 0;
        }
    }

    /** Codes as numbers: 16 times the signs and the bits; and the search for the best ones. */
    private static final class Codes {
        int least = 0;
        final int[] best = new int[MOST_CODED];
        private int fewest = 0;
        private int wanted = 0;
        private int last = 0;
        private final int[] chosen = new int[MOST_CODED];

        static int mistaken(int a, int b) {
            int signs = a >> 4;
            int others = b >> 4;
            if (signs == 0 || others == 0) return 0;
            if (a == b) return 9;
            if (signs == others) return Math.max(0, 3 - Integer.bitCount(a ^ b));
            if (signs == others + 1) return shortens(a, b) ? 2 : 0;
            if (others == signs + 1) return shortens(b, a) ? 2 : 0;
            return 0;
        }

        /** Whether leaving out some sign of a code makes the other one, which has a sign less. */
        private static boolean shortens(int code, int other) {
            int bits = code & 15;
            for (int sign = 0; sign < code >> 4; sign++) {
                int ahead = bits & ((1 << sign) - 1);
                int behind = bits >> (sign + 1) << sign;
                if ((ahead | behind) == (other & 15)) return true;
            }
            return false;
        }

        static int mistakenOnLine(Farms farms, int line) {
            int sum = 0;
            for (int a = 0; a < farms.size; a++) {
                if (farms.line[a] != line) continue;
                for (int b = 0; b < a; b++) {
                    if (farms.line[b] == line) sum += mistaken(farms.code[a], farms.code[b]);
                }
            }
            return sum;
        }

        /** Finds the best codes of so many farms with up to n signs; false: there are too few codes. */
        boolean search(int farms, int n) {
            if (farms > (1 << (n + 1)) - 2) return false;
            int upTo = 16 * n + (1 << n) - 1;
            // nothing else tells them: those that were found last may be asked for one by one
            if (farms == wanted && upTo == last) return true;
            wanted = farms;
            last = upTo;
            least = ENDLESS;
            fewest = ENDLESS;
            choose(0, 16, 0, 0);
            return true;
        }

        // Farms may swap codes and mistakes and signs stay, so the least row rises: only such rows are tried.
        private void choose(int place, int from, int mistakes, int signs) {
            if (mistakes > least || (mistakes == least && signs >= fewest)) return;
            if (place >= wanted || place >= MOST_CODED) {
                least = mistakes;
                fewest = signs;
                System.arraycopy(chosen, 0, best, 0, MOST_CODED);
                return;
            }
            for (int code = from; code <= last; code++) {
                if ((code & 15) < 1 << (code >> 4)) put(place, code, mistakes, signs);
            }
        }

        private void put(int place, int code, int mistakes, int signs) {
            if (place < 0 || place >= MOST_CODED) return;
            int sum = mistakes;
            for (int k = 0; k < place; k++) sum += mistaken(chosen[k], code);
            chosen[place] = code;
            choose(place + 1, code + 1, sum, signs + (code >> 4));
        }
    }

    /** The rules that were read from the tape. A clause is told as 8 times its rule and its place. */
    private static final class Rules {
        private static final int[] USUAL = {50, 10, 2, 5, 2, 0, 40};

        int size = 0;
        final Tape tape = new Tape();
        final int[] amount = new int[RULE_ROOM * MOST_CLAUSES];
        private final int[] day = new int[RULE_ROOM];
        private final int[] clauses = new int[RULE_ROOM];
        private final int[] word = new int[RULE_ROOM * MOST_CLAUSES];
        private final int[] start = new int[RULE_ROOM * MOST_CLAUSES];
        private final int[] end = new int[RULE_ROOM * MOST_CLAUSES];
        private final int[] regarded = new int[Tape.LETTERS];

        void copyFrom(Rules other) {
            size = other.size;
            tape.copyFrom(other.tape);
            System.arraycopy(other.amount, 0, amount, 0, RULE_ROOM * MOST_CLAUSES);
            System.arraycopy(other.day, 0, day, 0, RULE_ROOM);
            System.arraycopy(other.clauses, 0, clauses, 0, RULE_ROOM);
            System.arraycopy(other.word, 0, word, 0, RULE_ROOM * MOST_CLAUSES);
            System.arraycopy(other.start, 0, start, 0, RULE_ROOM * MOST_CLAUSES);
            System.arraycopy(other.end, 0, end, 0, RULE_ROOM * MOST_CLAUSES);
        }

        static boolean asksCall(int which) {
            return which == FIRST || which == TELL;
        }

        static int usual(int which) {
            return which >= 0 && which < WORDS ? USUAL[which] : 0;
        }

        /** Reads the tape into the place behind the last rule and empties it: its fault; below 0: it has none. */
        int readTape() {
            if (size >= RULE_ROOM) return 0;
            clauses[size] = 0;
            tape.begin(size * TAPE_SIZE);
            for (int k = 0; k < MOST_CLAUSES; k++) {
                readClause(size * MOST_CLAUSES + k);
                clauses[size] = k + 1;
                if (tape.isRead() || tape.isFault) break;
                // behind the last clause that a rule may have, a ; is a fault as well
                if (k < MOST_CLAUSES - 1) tape.expect(';');
            }
            int fault = tape.isRead() ? -1 : tape.place;
            tape.size = 0;
            return fault;
        }

        private void readClause(int clause) {
            if (clause < 0 || clause >= RULE_ROOM * MOST_CLAUSES) return;
            int which = tape.word();
            word[clause] = which;
            tape.expect(' ');
            amount[clause] = which == TELL ? 0 : tape.number();
            if (which == FIRST) tape.expect(' ');
            start[clause] = tape.written;
            if (asksCall(which)) tape.any(0);
            end[clause] = tape.written;
        }

        /** Makes what was read from the tape a rule from a day on. */
        int keep(int from) {
            if (size >= RULE_ROOM) return FULL;
            day[size] = from;
            return size++;
        }

        void dropLast() {
            if (size > 0) size--;
        }

        /** What the letters of texts stand for from here on. */
        void regard(int kind, int line, int from, int to, int minute) {
            regarded[0] = kind;
            regarded[1] = line;
            regarded[2] = from;
            regarded[3] = to;
            regarded[Tape.BEFORE] = minute;
            regarded[Tape.AFTER] = minute;
        }

        /** The clause that rules of a word on a day (of first: for what is regarded); below 0: none. */
        int ruling(int which, int on) {
            int ruling = -1;
            int latest = -1;
            for (int rule = 0; rule < size && rule < RULE_ROOM; rule++) {
                if (day[rule] > on || day[rule] < latest) continue;
                for (int clause = rule * MOST_CLAUSES + clauses[rule] - 1; clause >= rule * MOST_CLAUSES; clause--) {
                    if (word[clause] == which && (which != FIRST || isTrue(clause))) {
                        ruling = clause;
                        latest = day[rule];
                        break;
                    }
                }
            }
            return ruling;
        }

        /** Whether what a clause says holds for what is regarded. */
        boolean isTrue(int clause) {
            if (clause < 0 || clause >= RULE_ROOM * MOST_CLAUSES) return false;
            // a stack of truths, a bit each, the last one lowest
            int truths = 0;
            for (int k = start[clause]; k < end[clause] && k < RULE_ROOM * TAPE_SIZE; k++) {
                int step = tape.program[k];
                if (step == Tape.NOT) {
                    truths ^= 1;
                } else if (step == Tape.AND) {
                    truths = (truths >> 1) & (truths | ~1);
                } else if (step == Tape.OR) {
                    truths = (truths >> 1) | (truths & 1);
                } else {
                    truths = (truths << 1) | (fits(step / 1000, step % 1000) ? 1 : 0);
                }
            }
            return (truths & 1) != 0;
        }

        private boolean fits(int letter, int number) {
            if (letter < 0 || letter >= Tape.LETTERS) return false;
            if (letter == Tape.BEFORE) return regarded[letter] < number;
            if (letter == Tape.AFTER) return regarded[letter] > number;
            return regarded[letter] == number;
        }
    }

    /** The tape; as it is read, what its texts say is written as steps, each behind those that it joins. */
    private static final class Tape {
        static final int NOT = -1, AND = -2, OR = -3;
        static final int BEFORE = 4, AFTER = 5, LETTERS = 6;
        private static final int MOST_OPEN = 5, END = -1;

        int size = 0;
        int place = 0;
        int written = 0;
        boolean isFault = false;
        final int[] program = new int[RULE_ROOM * TAPE_SIZE];
        private final byte[] bytes = new byte[TAPE_SIZE];

        void copyFrom(Tape other) {
            size = other.size;
            System.arraycopy(other.program, 0, program, 0, RULE_ROOM * TAPE_SIZE);
            System.arraycopy(other.bytes, 0, bytes, 0, TAPE_SIZE);
        }

        int take(long w, int n) {
            for (int k = n - 1; k >= 0 && size < TAPE_SIZE; k--) {
                bytes[size] = (byte) (w >> (8 * k));
                size++;
            }
            return size;
        }

        void begin(int writeFrom) {
            place = 0;
            written = writeFrom;
            isFault = false;
        }

        boolean isRead() {
            return !isFault && place >= size;
        }

        private int next() {
            return place >= 0 && place < size && place < TAPE_SIZE ? bytes[place] & 255 : END;
        }

        void expect(int sign) {
            if (!isFault && next() == sign) {
                place++;
            } else {
                isFault = true;
            }
        }

        private void write(int step) {
            if (!isFault && written >= 0 && written < RULE_ROOM * TAPE_SIZE) {
                program[written] = step;
                written++;
            }
        }

        /** The words begin with unlike signs, so the first one tells which can go on. */
        int word() {
            for (int which = 0; which < WORDS; which++) {
                String text = spelled(which);
                if (text.charAt(0) != next()) continue;
                for (int k = 0; k < text.length(); k++) expect(text.charAt(k));
                return which;
            }
            isFault = true;
            return NONE;
        }

        private static String spelled(int which) {
            switch (which) {
                case FIRST: return "first";
                case DUES: return "dues";
                case WORK: return "work";
                case LONG: return "long";
                case CORDS: return "cords";
                case TELL: return "tell";
                default: return "near";
            }
        }

        int number() {
            int number = 0;
            int digits = 0;
            for (int sign = next(); !isFault && digits < 3 && sign >= '0' && sign <= '9'; sign = next()) {
                // behind a 0 ahead no digit can stand
                if (digits == 1 && number == 0) break;
                number = 10 * number + sign - '0';
                digits++;
                place++;
            }
            if (digits == 0) isFault = true;
            return number;
        }

        private void any(int open) {
            all(open);
            for (int k = place; k < size && !isFault && next() == '|'; k++) {
                place++;
                all(open);
                write(OR);
            }
        }

        private void all(int open) {
            one(open);
            for (int k = place; k < size && !isFault && next() == '&'; k++) {
                place++;
                one(open);
                write(AND);
            }
        }

        private void one(int open) {
            int sign = isFault ? END : next();
            int letter = letter(sign);
            if (sign == '!' && open < MOST_OPEN) {
                place++;
                one(open + 1);
                write(NOT);
            } else if (sign == '(' && open < MOST_OPEN) {
                place++;
                any(open + 1);
                expect(')');
            } else if (letter >= 0) {
                place++;
                if (letter == BEFORE && next() == '>') letter = AFTER;
                expect(letter == BEFORE ? '<' : letter == AFTER ? '>' : '=');
                write(1000 * letter + number());
            } else {
                isFault = true;
            }
        }

        private static int letter(int sign) {
            switch (sign) {
                case 'k': return 0;
                case 'l': return 1;
                case 'f': return 2;
                case 'g': return 3;
                case 'h': return BEFORE;
                default: return NONE;
            }
        }
    }

    private static final class Calls {
        private static final int[] UNDER = {NONE, 0, 0, THROUGH, RING};

        int size = 0;
        final int[] kind = new int[MOST_CALLS];
        final int[] from = new int[MOST_CALLS];
        final int[] to = new int[MOST_CALLS];
        final int[] lines = new int[MOST_CALLS]; // those that it needs, as bits
        final long[] way = new long[MOST_CALLS]; // the wires between both ends, as bits
        final int[] minutes = new int[MOST_CALLS];
        final int[] asked = new int[MOST_CALLS];
        final int[] begun = new int[MOST_CALLS];
        final int[] state = new int[MOST_CALLS];
        final int[] tapped = new int[MOST_CALLS];

        void copyFrom(Calls other) {
            size = other.size;
            System.arraycopy(other.kind, 0, kind, 0, MOST_CALLS);
            System.arraycopy(other.from, 0, from, 0, MOST_CALLS);
            System.arraycopy(other.to, 0, to, 0, MOST_CALLS);
            System.arraycopy(other.lines, 0, lines, 0, MOST_CALLS);
            System.arraycopy(other.way, 0, way, 0, MOST_CALLS);
            System.arraycopy(other.minutes, 0, minutes, 0, MOST_CALLS);
            System.arraycopy(other.asked, 0, asked, 0, MOST_CALLS);
            System.arraycopy(other.begun, 0, begun, 0, MOST_CALLS);
            System.arraycopy(other.state, 0, state, 0, MOST_CALLS);
            System.arraycopy(other.tapped, 0, tapped, 0, MOST_CALLS);
        }

        boolean has(int call) {
            return call >= 0 && call < size;
        }

        int add(Farms farms, int itsKind, int caller, int called, int itsMinutes, int now) {
            if (size >= MOST_CALLS) return FULL;
            kind[size] = itsKind;
            from[size] = caller;
            to[size] = called;
            lines[size] = farms.lineBit(caller) | farms.lineBit(called);
            way[size] = farms.way(caller, called);
            minutes[size] = itsMinutes;
            asked[size] = now;
            begun[size] = NONE;
            state[size] = WAITING;
            return size++;
        }

        /** Whether a kind is another one, or under it. */
        static boolean isUnder(int itsKind, int other) {
            int above = itsKind;
            for (int k = 0; k < KINDS && above >= 0 && above < KINDS; k++) {
                if (above == other) return true;
                above = UNDER[above];
            }
            return false;
        }

        int costs(int call) {
            switch (kind[call]) {
                case THROUGH: return minutes[call] + 2;
                case OUT: return 3 * (minutes[call] + 2);
                case ALL: return 0;
                default: return minutes[call];
            }
        }

        int holds(int call, Farms farms) {
            if (kind[call] == ALL) return Integer.bitCount(inCall(call, farms));
            return isUnder(kind[call], THROUGH) ? 2 : 1;
        }

        int waited(int call, int now) {
            return (begun[call] >= 0 ? begun[call] : now) - asked[call];
        }

        int loud(int call, Farms farms) {
            int posts = kind[call] == ALL ? farms.farthest(from[call]) : Long.bitCount(way[call]);
            return Math.max(0, 100 - 4 * posts - 7 * Integer.bitCount(tapped[call]) + farms.earsOf(to[call]));
        }

        /** How many cords a call needs. */
        int cords(int call) {
            return isUnder(kind[call], THROUGH) ? 1 : 0;
        }

        int cordsUsed() {
            int used = 0;
            for (int call = 0; call < size; call++) {
                if (state[call] == ON) used += cords(call);
            }
            return used;
        }

        /** The call that has a line. */
        int callOn(int line) {
            for (int call = 0; call < size; call++) {
                if (state[call] == ON && (lines[call] >> line & 1) != 0) return call;
            }
            return NONE;
        }

        boolean mayTakeUp(int farm, int call, Farms farms) {
            if (state[call] != ON || (lines[call] & farms.lineBit(farm)) == 0) return false;
            return ((inCall(call, farms) | tapped[call]) >> farm & 1) == 0;
        }

        /** The farms in a call, as bits. */
        private int inCall(int call, Farms farms) {
            if (kind[call] == ALL) return farms.onLine(farms.lineOf(from[call]));
            return farms.has(to[call]) ? 1 << from[call] | 1 << to[call] : 1 << from[call];
        }

        /** The farms by which a call was heard, as bits. */
        int hearers(int call, Farms farms) {
            return state[call] == WAITING || state[call] == LOST ? 0 : inCall(call, farms) | tapped[call];
        }

        int inState(int which) {
            int some = 0;
            for (int call = 0; call < size; call++) {
                if (state[call] == which) some++;
            }
            return some;
        }

        /** The minutes of a farm's calls to the town that came about, asked from a day to another one. */
        int townMinutes(int farm, int firstDay, int lastDay) {
            int sum = 0;
            for (int call = 0; call < size; call++) {
                int day = asked[call] / DAY_MINUTES;
                boolean cameAbout = state[call] == ON || state[call] == ENDED;
                if (kind[call] == OUT && from[call] == farm && cameAbout && day >= firstDay && day <= lastDay) {
                    sum += minutes[call];
                }
            }
            return sum;
        }

        /** How many rings and throughs were asked between two farms. */
        int between(int a, int b) {
            int some = 0;
            for (int call = 0; call < size; call++) {
                // a call out or to all has the board for its other end
                if ((from[call] == a && to[call] == b) || (from[call] == b && to[call] == a)) some++;
            }
            return some;
        }
    }

    /** Lets minutes go by. */
    private static final class Exchange {
        private final int[] queue = new int[MOST_CALLS];
        private final int[] rank = new int[MOST_CALLS];
        private int queued = 0;
        private int busy = 0;
        private int cords = 0;
        private int talking = 0;

        void pass(World world, int n) {
            lineUp(world);
            boolean isQuiet = false;
            for (int k = 0; k < n; k++) {
                if (!isQuiet) {
                    endCalls(world.calls, world.now);
                    beginCalls(world);
                    isQuiet = talking == 0 && queued == 0;
                }
                world.now++;
            }
        }

        // No rank changes while minutes go by: one queue does for all of them.
        private void lineUp(World world) {
            Calls calls = world.calls;
            queued = 0;
            for (int call = 0; call < calls.size && queued < MOST_CALLS; call++) {
                if (calls.state[call] != WAITING) continue;
                int its = world.rankOn(call, calls.asked[call] / DAY_MINUTES);
                int place = queued;
                for (; place > 0 && rank[place - 1] > its; place--) {
                    rank[place] = rank[place - 1];
                    queue[place] = queue[place - 1];
                }
                rank[place] = its;
                queue[place] = call;
                queued++;
            }
        }

        private void endCalls(Calls calls, int now) {
            busy = 0;
            cords = 0;
            talking = 0;
            for (int call = 0; call < calls.size; call++) {
                if (calls.state[call] != ON) continue;
                if (now - calls.begun[call] >= calls.minutes[call]) {
                    calls.state[call] = ENDED;
                } else {
                    occupy(calls, call);
                }
            }
        }

        private void occupy(Calls calls, int call) {
            busy |= calls.lines[call];
            cords += calls.cords(call);
            talking++;
        }

        private void beginCalls(World world) {
            int waiting = queued;
            queued = 0;
            int most = waiting == 0 ? 0 : world.ruled(CORDS, NONE, world.today());
            for (int k = 0; k < waiting && k < MOST_CALLS; k++) {
                int call = queue[k];
                if (!world.calls.has(call)) continue;
                begin(world, call, most);
                if (world.calls.state[call] == WAITING) {
                    queue[queued] = call;
                    queued++;
                }
            }
        }

        private void begin(World world, int call, int mostCords) {
            Calls calls = world.calls;
            boolean hasCord = calls.cords(call) == 0 || cords < mostCords;
            if ((calls.way[call] & world.wires.down) != 0) {
                calls.state[call] = LOST;
            } else if (hasCord && (calls.lines[call] & busy) == 0) {
                calls.state[call] = ON;
                calls.begun[call] = world.now;
                occupy(calls, call);
            } else if (world.now - calls.asked[call] >= 30) {
                calls.state[call] = LOST;
            }
        }
    }

    /** Wires that are down or may be (each as 10 times its line and its place), and told rings. */
    private static final class Wires {
        long down = 0;
        int rings = 0;
        int maybes = 0;
        int fewest = 0;
        int rivals = 0;
        private int could = 0;
        private final long[] way = new long[MOST_RINGS];
        private final int[] maybe = new int[MOST_MAYBES];
        private final int[] cuts = new int[MOST_RINGS];

        void copyFrom(Wires other) {
            down = other.down;
            rings = other.rings;
            maybes = other.maybes;
            could = other.could;
            System.arraycopy(other.way, 0, way, 0, MOST_RINGS);
            System.arraycopy(other.maybe, 0, maybe, 0, MOST_MAYBES);
        }

        /** Turns a wire down or up: whether it was down. */
        boolean turn(int wire, boolean so) {
            boolean was = (down >> wire & 1) != 0;
            down = so ? down | 1L << wire : down & ~(1L << wire);
            return was;
        }

        int addRing(long itsWay, boolean so) {
            if (rings >= MOST_RINGS) return FULL;
            way[rings] = itsWay;
            if (so) could |= 1 << rings;
            rings++;
            return rings;
        }

        boolean isMaybe(int wire) {
            for (int k = 0; k < maybes; k++) {
                if (maybe[k] == wire) return true;
            }
            return false;
        }

        int addMaybe(int wire) {
            if (maybes >= MOST_MAYBES) return FULL;
            maybe[maybes] = wire;
            maybes++;
            return maybes;
        }

        /** Finds the fewest wires that explain all told rings, and how many sets of so many do (0: none does). */
        void explain() {
            for (int ring = 0; ring < rings; ring++) cuts[ring] = cutsOf(ring);
            fewest = 0;
            rivals = 0;
            for (int set = 0; set < 1 << maybes; set++) {
                int more = Integer.bitCount(set) - Integer.bitCount(fewest);
                if (rivals > 0 && more > 0 || !explains(set)) continue;
                if (rivals == 0 || more < 0) {
                    fewest = set;
                    rivals = 0;
                }
                rivals++;
            }
        }

        /** The wires that may be down on a ring's way, as bits by their places among those told. */
        private int cutsOf(int ring) {
            int bits = 0;
            for (int k = 0; k < maybes; k++) {
                if ((way[ring] >> maybe[k] & 1) != 0) bits |= 1 << k;
            }
            return bits;
        }

        private boolean explains(int set) {
            for (int ring = 0; ring < rings; ring++) {
                boolean can = (cuts[ring] & set) == 0;
                if (can != ((could >> ring & 1) != 0)) return false;
            }
            return true;
        }
    }

    /** What was paid, in coins (0) and in days of work (1). */
    private static final class Ledger {
        int size = 0;
        private final int[] farm = new int[MOST_PAYMENTS];
        private final int[] what = new int[MOST_PAYMENTS];
        private final int[] much = new int[MOST_PAYMENTS];
        private final int[] day = new int[MOST_PAYMENTS];

        void copyFrom(Ledger other) {
            size = other.size;
            System.arraycopy(other.farm, 0, farm, 0, MOST_PAYMENTS);
            System.arraycopy(other.what, 0, what, 0, MOST_PAYMENTS);
            System.arraycopy(other.much, 0, much, 0, MOST_PAYMENTS);
            System.arraycopy(other.day, 0, day, 0, MOST_PAYMENTS);
        }

        void add(int itsFarm, int itsWhat, int n, int today) {
            if (size >= MOST_PAYMENTS) return;
            farm[size] = itsFarm;
            what[size] = itsWhat;
            much[size] = n;
            day[size] = today;
            size++;
        }

        int paid(int byFarm, int inWhat) {
            int sum = 0;
            for (int k = 0; k < size; k++) {
                if (farm[k] == byFarm && what[k] == inWhat) sum += much[k];
            }
            return sum;
        }

        /** What a farm paid from a day to another one, a day of work as 3 coins. */
        int worth(int byFarm, int firstDay, int lastDay) {
            int sum = 0;
            for (int k = 0; k < size; k++) {
                if (farm[k] == byFarm && day[k] >= firstDay && day[k] <= lastDay) {
                    sum += what[k] == 0 ? much[k] : 3 * much[k];
                }
            }
            return sum;
        }
    }

    private static final class Meetings {
        int size = 0;
        private int annulled = 0;
        private final int[] came = new int[MOST_MEETINGS];
        private final int[] fors = new int[MOST_MEETINGS];
        private final int[] hangsOn = new int[MOST_MEETINGS];
        private final int[] farms = new int[MOST_MEETINGS];

        void copyFrom(Meetings other) {
            size = other.size;
            annulled = other.annulled;
            System.arraycopy(other.came, 0, came, 0, MOST_MEETINGS);
            System.arraycopy(other.fors, 0, fors, 0, MOST_MEETINGS);
            System.arraycopy(other.hangsOn, 0, hangsOn, 0, MOST_MEETINGS);
            System.arraycopy(other.farms, 0, farms, 0, MOST_MEETINGS);
        }

        int add(int howMany, int forIt, int on, int allFarms) {
            if (size >= MOST_MEETINGS) return FULL;
            came[size] = howMany;
            fors[size] = forIt;
            hangsOn[size] = on;
            farms[size] = allFarms;
            return size++;
        }

        /** Makes a meeting nought: whether it was not. */
        boolean annul(int meeting) {
            boolean was = (annulled >> meeting & 1) != 0;
            annulled |= 1 << meeting;
            return !was;
        }

        /** The meetings that count, as bits. */
        int valid() {
            int bits = 0;
            for (int k = 0; k < size; k++) {
                boolean enough = 2 * came[k] >= farms[k] && 2 * fors[k] > came[k];
                boolean stands = hangsOn[k] < 0 || (bits >> hangsOn[k] & 1) != 0;
                if (enough && stands && (annulled >> k & 1) == 0) bits |= 1 << k;
            }
            return bits;
        }
    }

    /** The search for farms parted to lines. */
    private static final class Division {
        int least = 0;
        final int[] best = new int[MOST_PARTED];
        private int farms = 0;
        private int lines = 0;
        private final int[] chosen = new int[MOST_PARTED];
        private final int[] calls = new int[MOST_PARTED * MOST_PARTED];
        private final int[] foes = new int[MOST_PARTED];

        /** Parts the first n farms to m lines; false: it can't be. */
        boolean search(World world, int n, int m) {
            farms = Math.min(n, MOST_PARTED);
            lines = m;
            for (int a = 0; a < farms; a++) {
                foes[a] = world.farms.foes[a];
                for (int b = 0; b < a; b++) calls[MOST_PARTED * a + b] = world.calls.between(a, b);
            }
            least = ENDLESS;
            choose(0, 0);
            return least < ENDLESS;
        }

        // Rows are tried from the least on, so of those alike the first one stays.
        private void choose(int farm, int waits) {
            if (waits >= least) return;
            if (farm >= farms || farm >= MOST_PARTED) {
                least = waits;
                System.arraycopy(chosen, 0, best, 0, MOST_PARTED);
                return;
            }
            for (int line = 0; line < lines; line++) put(farm, line, waits);
        }

        private void put(int farm, int line, int waits) {
            if (farm < 0 || farm >= MOST_PARTED) return;
            int sum = waits;
            for (int other = 0; other < farm; other++) {
                boolean together = chosen[other] == line;
                if (together && (foes[farm] >> other & 1) != 0) return;
                sum += together ? 1 : calls[MOST_PARTED * farm + other];
            }
            chosen[farm] = line;
            choose(farm + 1, sum);
        }
    }
}
