/** Boundary cases of promises 28 to 33: quarrels, farms parted, meetings, a rule tried. Each remark is the document's sentence. */
public final class EdgesMeetingsTest {
    private static final int NONE = Edges.NONE, BAD = Edges.BAD, FULL = Edges.FULL;
    private static final int MIN = Edges.MIN, MAX = Edges.MAX;

    /** So many farms: one line after another, each at post 0. */
    private static OneWire farms(int many) {
        OneWire x = new OneWire();
        for (int k = 0; k < many; k++) x.farm(k % 4, 0, 0);
        return x;
    }

    // ---- promise 28

    // NONE
    static void p28_farmTooSmallOrTooLarge() {
        OneWire x = farms(3);
        for (int farm : new int[] {-1, 3, 12, MIN, MAX}) {
            Due.is("a " + farm, x.quarrel(farm, 0), NONE);
            Due.is("b " + farm, x.quarrel(0, farm), NONE);
        }
    }

    // BAD: one FARM
    static void p28_oneFarm() {
        OneWire x = farms(12);
        for (int farm = 0; farm < 12; farm++) Due.is("farm " + farm, x.quarrel(farm, farm), BAD);
    }

    static void p28_noneAheadOfBad() {
        OneWire x = farms(3);
        Due.is("3 and 3", x.quarrel(3, 3), NONE);
        Due.is("-1 and -1", x.quarrel(-1, -1), NONE);
    }

    // A QUARREL: 1; 0: there was one (between two FARMS: either way)
    static void p28_thereWasOne() {
        OneWire x = farms(12);
        Due.is("11 and 0", x.quarrel(11, 0), 1);
        Due.is("again", x.quarrel(11, 0), 0);
        Due.is("turned", x.quarrel(0, 11), 0);
        Due.is("10 and 0", x.quarrel(10, 0), 1);
        Due.is("10 and 11", x.quarrel(10, 11), 1);
        Due.is("0 and 10", x.quarrel(0, 10), 0);
        Due.is("11 and 10", x.quarrel(11, 10), 0);
    }

    // They change nothing
    static void p28_refusedIsNoQuarrel() {
        OneWire x = farms(2);
        x.quarrel(0, 0);
        x.quarrel(1, 1);
        x.quarrel(0, 2);
        x.quarrel(0, -1);
        x.quarrel(1, 32);
        Due.is("both on one line", x.divide(2, 1, -1), 1);
        Due.is("the first one", x.quarrel(0, 1), 1);
    }

    // ---- promise 29

    private static void parted(OneWire x, int m, int waits, int... row) {
        Due.is("waits, m " + m, x.divide(row.length, m, -1), waits);
        for (int i = 0; i < row.length; i++) Due.is("line of " + i + ", m " + m, x.divide(row.length, m, i), row[i]);
    }

    private static void cannot(OneWire x, int n, int m) {
        for (int i = -1; i < n; i++) Due.is("n " + n + ", m " + m + ", i " + i, x.divide(n, m, i), -5);
    }

    // NONE: i
    static void p29_iTooSmall() {
        OneWire x = farms(7);
        for (int i : new int[] {-2, MIN}) Due.is("i " + i, x.divide(7, 3, i), NONE);
    }

    static void p29_iTooLarge() {
        OneWire x = farms(12);
        for (int n = 1; n <= 7; n++) {
            for (int i : new int[] {n, n + 1, MAX}) Due.is("n " + n + ", i " + i, x.divide(n, 3, i), NONE);
            Due.is("n " + n + ", the last one", x.divide(n, 1, n - 1), 0);
        }
    }

    // n 1 .. 7; BAD: n
    static void p29_nTooSmall() {
        OneWire x = farms(7);
        for (int n : new int[] {0, -1, MIN}) Due.is("n " + n, x.divide(n, 3, -1), BAD);
        parted(x, 3, 0, 0);
    }

    static void p29_nTooLarge() {
        OneWire x = farms(12);
        for (int n : new int[] {8, 12, MAX}) Due.is("n " + n, x.divide(n, 3, -1), BAD);
        Due.is("n 8, i 0", x.divide(8, 3, 0), BAD);
        Due.is("n 7", x.divide(7, 1, -1), 21);
    }

    // BAD: n (also more than FARMS)
    static void p29_nMoreThanFarms() {
        for (int farms = 0; farms < 7; farms++) {
            OneWire x = farms(farms);
            Due.is("one more than " + farms, x.divide(farms + 1, 3, -1), BAD);
            Due.is("one more than " + farms, x.divide(farms + 1, 3, farms), BAD);
            if (farms > 0) Due.is("as many as " + farms, x.divide(farms, 1, 0), 0);
        }
    }

    // m 1 .. 3; BAD: m
    static void p29_mTooSmall() {
        OneWire x = farms(3);
        for (int m : new int[] {0, -1, MIN}) {
            Due.is("m " + m, x.divide(3, m, -1), BAD);
            Due.is("m " + m, x.divide(3, m, 0), BAD);
        }
        parted(x, 1, 3, 0, 0, 0);
    }

    static void p29_mTooLarge() {
        OneWire x = farms(4);
        for (int m : new int[] {4, MAX}) {
            Due.is("m " + m, x.divide(4, m, -1), BAD);
            Due.is("m " + m, x.divide(4, m, 3), BAD);
        }
        parted(x, 3, 1, 0, 0, 1, 2);
    }

    static void p29_noneAheadOfBad() {
        OneWire x = farms(3);
        Due.is("i and m", x.divide(3, 4, 3), NONE);
        Due.is("i and m", x.divide(3, 0, -2), NONE);
        Due.is("i and n", x.divide(8, 3, 8), NONE);
        Due.is("i and n", x.divide(4, 3, 4), NONE);
        Due.is("i and n", x.divide(0, 3, 0), NONE);
    }

    // -5: it can't be
    static void p29_itCannotBe() {
        OneWire x = farms(4);
        x.quarrel(0, 1);
        cannot(x, 2, 1);
        parted(x, 2, 0, 0, 1);
        x.quarrel(0, 2);
        x.quarrel(1, 2);
        cannot(x, 3, 2);
        parted(x, 3, 0, 0, 1, 2);
        for (int k = 0; k < 3; k++) x.quarrel(3, k);
        cannot(x, 4, 3);
        parted(x, 3, 0, 0, 1, 2);
        parted(x, 1, 0, 0);
    }

    static void p29_refusalsAheadOfItCannotBe() {
        OneWire x = farms(2);
        x.quarrel(0, 1);
        Due.is("i", x.divide(2, 1, 2), NONE);
        Due.is("m", x.divide(2, 0, 0), BAD);
        Due.is("n", x.divide(3, 1, 0), BAD);
    }

    // no two that QUARREL are on one: of FARMS 0 .. n - 1
    static void p29_quarrelsOfOthers() {
        OneWire x = farms(8);
        x.quarrel(6, 7);
        x.quarrel(0, 7);
        x.quarrel(5, 6);
        parted(x, 1, 15, 0, 0, 0, 0, 0, 0);
        cannot(x, 7, 1);
    }

    static void p29_quarrelOfTheLastTwo() {
        OneWire x = farms(7);
        x.quarrel(6, 5);
        cannot(x, 7, 1);
        parted(x, 2, 9, 0, 0, 0, 1, 1, 0, 1);
    }

    // WAITS: for each two FARMS on one of these LINES 1
    static void p29_onOneLine() {
        int[] want = {0, 1, 3, 6, 10, 15, 21};
        OneWire x = farms(7);
        for (int n = 1; n <= 7; n++) Due.is("n " + n, x.divide(n, 1, -1), want[n - 1]);
    }

    // for each two on different ones as many as RINGS and THROUGHS were asked between them (either way)
    static void p29_callsBetweenThem() {
        OneWire x = new OneWire();
        x.farm(0, 0, 0);
        x.farm(0, 0, 0);
        x.farm(1, 0, 0);
        for (int k = 0; k < 2; k++) {
            x.quarrel(0, 1);
            x.quarrel(0, 2);
        }
        x.ring(0, 1, 1);
        Due.is("a ring", x.divide(2, 2, -1), 1);
        x.ring(1, 0, 1);
        Due.is("another, turned", x.divide(2, 2, -1), 2);
        x.ring(2, 0, 1);
        Due.is("a through to 0", x.divide(3, 3, -1), 3);
        x.ring(0, 2, 1);
        Due.is("a through from 0", x.divide(3, 3, -1), 4);
    }

    // RINGS and THROUGHS: neither OUT nor ALL
    static void p29_noOtherCalls() {
        OneWire x = farms(3);
        for (int farm = 0; farm < 3; farm++) {
            x.call(3, farm, 1);
            x.call(4, farm, 1);
        }
        parted(x, 3, 0, 0, 1, 2);
    }

    // were asked: whatever became of them
    static void p29_wereAsked() {
        OneWire x = farms(2);
        x.quarrel(0, 1);
        x.ring(0, 1, 1);
        Due.is("it waits", x.divide(2, 2, -1), 1);
        x.minute(1);
        Due.is("it is on", x.divide(2, 2, -1), 1);
        x.minute(5);
        Due.is("it has ended", x.divide(2, 2, -1), 1);
        x.down(0, 0, true);
        x.ring(1, 0, 1);
        x.minute(1);
        Due.is("it is lost", x.divide(2, 2, -1), 2);
    }

    // The least WAITS
    static void p29_leastWaits() {
        OneWire x = farms(4);
        for (int k = 0; k < 2; k++) {
            x.ring(0, 3, 1);
            x.ring(1, 2, 1);
        }
        parted(x, 2, 2, 0, 1, 1, 0);
        parted(x, 3, 2, 0, 1, 1, 0);
    }

    // of several the least row of LINES
    static void p29_leastRow() {
        OneWire x = farms(7);
        parted(x, 2, 0, 0, 1);
        parted(x, 2, 1, 0, 0, 1);
        parted(x, 3, 5, 0, 0, 0, 1, 1, 2, 2);
        x.ring(0, 1, 1);
        // together they wait as long as apart
        parted(x, 2, 1, 0, 0);
        parted(x, 3, 1, 0, 0);
    }

    // LINES 0 .. m - 1: not all must be used
    static void p29_linesThatStayEmpty() {
        OneWire x = farms(3);
        for (int k = 0; k < 2; k++) {
            x.ring(0, 1, 1);
            x.ring(0, 2, 1);
            x.ring(1, 2, 1);
        }
        parted(x, 3, 3, 0, 0, 0);
    }

    // as many as can be asked between two
    static void p29_mostCalls() {
        OneWire x = farms(7);
        for (int k = 0; k < 60; k++) x.ring(5, 6, 1);
        Due.is("together", x.divide(7, 3, 5), x.divide(7, 3, 6));
        x.quarrel(5, 6);
        Due.is("60 and 4", x.divide(7, 3, -1), 65);
    }

    // ---- promise 30

    // NONE: on (an earlier one, or -1)
    static void p30_onTooSmall() {
        OneWire x = farms(3);
        x.vote(7, 3, -1);
        for (int on : new int[] {-2, MIN}) Due.is("on " + on, x.vote(7, 3, on), NONE);
        Due.is("on -1", x.vote(7, 3, -1), 1);
    }

    static void p30_onTooLarge() {
        OneWire x = farms(3);
        for (int on : new int[] {0, 1, MAX}) Due.is("on " + on + ", the first", x.vote(7, 3, on), NONE);
        x.vote(7, 3, -1);
        for (int on : new int[] {1, 2, 10, MAX}) Due.is("on " + on + ", the second", x.vote(7, 3, on), NONE);
        Due.is("on 0", x.vote(7, 3, 0), 1);
        Due.is("on 1", x.vote(7, 3, 1), 2);
    }

    // BAD: came (bits of FARMS)
    static void p30_cameOfNoFarm() {
        for (int farms = 0; farms <= 12; farms++) {
            OneWire x = farms(farms);
            for (int came : new int[] {1 << farms, -1, MIN, MAX, 1 << 31, 1 << 30}) {
                Due.is(farms + " farms, came " + came, x.vote(came, 0, -1), BAD);
            }
            Due.is(farms + " farms, all", x.vote((1 << farms) - 1, 0, -1), 0);
            Due.is(farms + " farms, none", x.vote(0, 0, -1), 1);
        }
    }

    // BAD: fors (more than came, below 0)
    static void p30_forsTooMany() {
        OneWire x = farms(12);
        Due.is("one of none", x.vote(0, 1, -1), BAD);
        Due.is("two of one", x.vote(2048, 2, -1), BAD);
        Due.is("13 of 12", x.vote(4095, 13, -1), BAD);
        Due.is("MAX of 12", x.vote(4095, MAX, -1), BAD);
        Due.is("four of three", x.vote(2048 | 64 | 1, 4, -1), BAD);
        Due.is("none of none", x.vote(0, 0, -1), 0);
        Due.is("one of one", x.vote(2048, 1, -1), 1);
        Due.is("12 of 12", x.vote(4095, 12, -1), 2);
    }

    static void p30_forsBelow0() {
        OneWire x = farms(12);
        for (int fors : new int[] {-1, MIN}) {
            Due.is(fors + " of 12", x.vote(4095, fors, -1), BAD);
            Due.is(fors + " of none", x.vote(0, fors, -1), BAD);
        }
    }

    private static OneWire full() {
        OneWire x = farms(3);
        for (int k = 0; k < 10; k++) x.vote(7, 3, k - 1);
        return x;
    }

    // MEETINGS are numbered from 0 on, 10 at most; FULL
    static void p30_the10thAndThe11th() {
        OneWire x = farms(3);
        for (int k = 0; k < 10; k++) Due.is("meeting " + k, x.vote(7, 3, k - 1), k);
        Due.is("an 11th", x.vote(7, 3, -1), FULL);
        Due.is("an 11th on the 10th", x.vote(7, 3, 9), FULL);
        Due.is("meetings", x.count(8), 10);
        Due.is("all count", x.counting(), 1023);
    }

    static void p30_noneAheadOfBad() {
        OneWire x = farms(3);
        Due.is("on and came", x.vote(8, 0, 0), NONE);
        Due.is("on and fors", x.vote(7, 4, -2), NONE);
    }

    static void p30_refusalsAheadOfFull() {
        OneWire x = full();
        Due.is("on", x.vote(7, 3, 10), NONE);
        Due.is("on", x.vote(7, 3, -2), NONE);
        Due.is("came", x.vote(8, 0, -1), BAD);
        Due.is("fors", x.vote(7, 4, -1), BAD);
        Due.is("fors", x.vote(7, -1, -1), BAD);
    }

    static void p30_refusedIsNoMeeting() {
        OneWire x = farms(3);
        x.vote(8, 0, -1);
        x.vote(7, 4, -1);
        x.vote(7, 3, 0);
        Due.is("meetings", x.count(8), 0);
        Due.is("the next one", x.vote(7, 3, -1), 0);
    }

    // ---- promise 31

    // NONE
    static void p31_meetingTooSmallOrTooLarge() {
        OneWire x = farms(3);
        Due.is("none yet", x.nought(0), NONE);
        x.vote(7, 3, -1);
        for (int meeting : new int[] {-1, 1, 10, 32, MIN, MAX}) Due.is("meeting " + meeting, x.nought(meeting), NONE);
        Due.is("it counts", x.counting(), 1);
        OneWire y = full();
        Due.is("10 of ten", y.nought(10), NONE);
        Due.is("9 of ten", y.nought(9), 1);
    }

    // It is made NOUGHT: 1; 0: it was
    static void p31_itWas() {
        OneWire x = full();
        Due.is("made", x.nought(0), 1);
        Due.is("it was", x.nought(0), 0);
        Due.is("it was not by that on which it hangs", x.nought(1), 1);
        Due.is("it was", x.nought(1), 0);
        Due.is("the last one", x.nought(9), 1);
    }

    // one that does not COUNT can be made NOUGHT
    static void p31_thatDidNotCount() {
        OneWire x = farms(3);
        x.vote(0, 0, -1);
        Due.is("made", x.nought(0), 1);
        Due.is("it was", x.nought(0), 0);
    }

    // ---- promise 32

    private static int counts(int farms, int came, int fors) {
        OneWire x = farms(farms);
        x.vote((1 << came) - 1, fors, -1);
        return x.counting();
    }

    static void p32_noMeetings() {
        Due.is("none", new OneWire().counting(), 0);
    }

    // half of all FARMS that there were then, or more, came
    static void p32_halfCame() {
        Due.is("one of two", counts(2, 1, 1), 1);
        Due.is("one of three", counts(3, 1, 1), 0);
        Due.is("two of three", counts(3, 2, 2), 1);
        Due.is("five of eleven", counts(11, 5, 5), 0);
        Due.is("six of eleven", counts(11, 6, 6), 1);
        Due.is("five of twelve", counts(12, 5, 5), 0);
        Due.is("six of twelve", counts(12, 6, 6), 1);
        Due.is("all of twelve", counts(12, 12, 12), 1);
        Due.is("none of one", counts(1, 0, 0), 0);
    }

    // more than half of those that came were for it
    static void p32_moreThanHalfForIt() {
        Due.is("none of one", counts(1, 1, 0), 0);
        Due.is("one of one", counts(1, 1, 1), 1);
        Due.is("one of two", counts(2, 2, 1), 0);
        Due.is("two of two", counts(2, 2, 2), 1);
        Due.is("one of three", counts(3, 3, 1), 0);
        Due.is("two of three", counts(3, 3, 2), 1);
        Due.is("six of twelve", counts(12, 12, 6), 0);
        Due.is("seven of twelve", counts(12, 12, 7), 1);
        Due.is("five of eleven", counts(12, 11, 5), 0);
        Due.is("six of eleven", counts(12, 11, 6), 1);
    }

    // of none that came none were for it
    static void p32_nobodyCame() {
        Due.is("of no farms", counts(0, 0, 0), 0);
        Due.is("of one", counts(1, 0, 0), 0);
    }

    // that there were then
    static void p32_farmsThatThereWereThen() {
        OneWire x = farms(2);
        x.vote(1, 1, -1);
        for (int k = 0; k < 10; k++) x.farm(0, 0, 0);
        x.vote(1, 1, -1);
        Due.is("one of two, one of twelve", x.counting(), 1);
    }

    // it is not made NOUGHT
    static void p32_notMadeNought() {
        OneWire x = farms(3);
        for (int k = 0; k < 10; k++) x.vote(7, 3, -1);
        x.nought(0);
        x.nought(9);
        Due.is("all but two", x.counting(), 1023 - 1 - 512);
    }

    // and that on which it hangs COUNTS
    static void p32_onWhichItHangs() {
        OneWire x = full();
        Due.is("a chain of ten", x.counting(), 1023);
        x.nought(9);
        Due.is("the last one", x.counting(), 511);
        x.nought(4);
        Due.is("those behind the fifth", x.counting(), 15);
        x.nought(0);
        Due.is("all", x.counting(), 0);
        OneWire y = farms(3);
        y.vote(1, 1, -1);
        y.vote(7, 3, 0);
        y.vote(7, 3, 1);
        y.vote(7, 3, -1);
        Due.is("too few came to the first", y.counting(), 8);
        OneWire z = farms(3);
        z.vote(7, 3, -1);
        z.vote(7, 1, 0);
        z.vote(7, 3, 1);
        z.vote(7, 3, 0);
        Due.is("too few for the second", z.counting(), 9);
    }

    // ---- promise 33

    /** Calls: 0 a ring, 1 a through, 2 out, 3 to all; asked on day 0. */
    private static OneWire calls() {
        OneWire x = new OneWire();
        x.farm(0, 0, 0);
        x.farm(0, 1, 0);
        x.farm(1, 0, 0);
        x.ring(0, 1, 1);
        x.ring(1, 2, 1);
        x.call(3, 0, 1);
        x.call(4, 2, 1);
        return x;
    }

    private static int tried(OneWire x, String text, int what, int call) {
        Due.feed(x, text);
        return x.tried(what, call);
    }

    // NONE: what (THE TAPE stays)
    static void p33_whatTooSmallOrTooLarge() {
        OneWire x = calls();
        Due.feed(x, "first 7 k=1");
        for (int what : new int[] {-1, 2, MIN, MAX}) Due.is("what " + what, x.tried(what, 0), NONE);
        Due.is("the tape stays", x.count(7), 11);
        Due.is("and reads", x.tried(0, 0), 7);
    }

    // NONE: call (of 0; THE TAPE stays)
    static void p33_callTooSmallOrTooLarge() {
        OneWire x = calls();
        Due.feed(x, "first 7 k=1");
        for (int call : new int[] {-1, 4, 60, MIN, MAX}) Due.is("call " + call, x.tried(0, call), NONE);
        Due.is("the tape stays", x.count(7), 11);
        Due.is("and reads", x.tried(0, 0), 7);
        Due.is("the last one", tried(x, "first 7 k=4", 0, 3), -13);
    }

    // call (of 0 ..): of 1 it does not matter
    static void p33_callDoesNotMatter() {
        OneWire x = calls();
        for (int call : new int[] {-1, 4, 60, MIN, MAX}) Due.is("call " + call, tried(x, "tell k=1|k=2", 1, call), 2);
    }

    // NONE ahead of the FAULT
    static void p33_noneAheadOfTheFault() {
        OneWire x = calls();
        Due.feed(x, "x");
        Due.is("what", x.tried(2, 0), NONE);
        Due.is("call", x.tried(0, 4), NONE);
        Due.is("the tape stays", x.count(7), 1);
        Due.is("fault", x.tried(0, 0), -10);
    }

    // -10 less the FAULT
    static void p33_fault() {
        OneWire x = calls();
        Due.is("of 0, an empty tape", x.tried(0, 0), -10);
        Due.is("of 1, an empty tape", x.tried(1, 0), -10);
        Due.is("of 0", tried(x, "first 7 k=x", 0, 0), -20);
        Due.is("of 1", tried(x, "tell k=1|", 1, 0), -19);
        Due.is("at the end of 120", tried(x, "tell k=1" + "|k=1".repeat(27) + "|k=x", 1, 0), -129);
        Due.is("behind 120", tried(x, "tell k=1" + "|k=1".repeat(27) + "&!!(", 1, 0), -130);
    }

    // (THE TAPE is empty then.)
    static void p33_emptyThen() {
        OneWire x = calls();
        tried(x, "tell k=1", 1, 0);
        Due.is("of 1", x.count(7), 0);
        tried(x, "tell k=1", 0, 0);
        Due.is("of 0", x.count(7), 0);
        tried(x, "tell", 0, 0);
        Due.is("by a fault", x.count(7), 0);
    }

    // THE TAPE as a RULE: it is none when it was tried
    static void p33_noRuleStays() {
        OneWire x = calls();
        Due.is("tried", tried(x, "first 7 k=1;tell k=1;long 1;cords 0", 0, 0), 7);
        Due.is("rules", x.count(1), 0);
        Due.is("rank", x.of(0, 2), 50);
        Due.is("told", x.force(5, 0, 400), 0);
        Due.is("long", x.force(3, 0, 400), 5);
        Due.is("the next one", Due.rule(x, "near 1", 0), 0);
    }

    // from the DAY of NOW on (also with 10)
    static void p33_alsoWith10() {
        OneWire x = calls();
        for (int k = 0; k < 9; k++) Due.rule(x, "first 60 k=1;tell k=1", 0);
        Due.is("with nine", tried(x, "first 7 k=1", 0, 0), 7);
        Due.rule(x, "first 61 k=1;tell k=2|k=3", 0);
        Due.is("with ten", tried(x, "first 7 k=1;near 2;near 3;near 4;near 5;near 6;near 7;tell k=2", 0, 0), 7);
        Due.is("with ten, told", tried(x, "tell k=4", 1, 0), 1);
        Due.is("with ten, a fault", tried(x, "tell k=", 1, 0), -17);
        Due.is("rules", x.count(1), 10);
        Due.is("rank", x.of(0, 2), 61);
        Due.is("told", x.force(5, 1, 0), 1);
        Due.is("near", x.force(6, 0, 400), 40);
    }

    // from the DAY of NOW on: of like DAYS the greatest number is its
    static void p33_fromTheDayOfNow() {
        OneWire x = calls();
        Due.rule(x, "first 20 k=1", 1);
        Due.rule(x, "first 30 k=1", 2);
        Due.pass(x, 100);
        Due.is("it is in force on day 1", tried(x, "first 7 k=1", 0, 0), 7);
        Due.is("it has no first", tried(x, "near 7", 0, 0), 20);
    }

    // 0 RANK of a CALL as it would be (on that DAY): not on that on which it was asked
    static void p33_rankOnThatDay() {
        OneWire x = calls();
        Due.rule(x, "first 10 k=1", 0);
        Due.rule(x, "first 20 k=1", 1);
        Due.rule(x, "first 30 k=1", 2);
        Due.pass(x, 199);
        Due.is("day 1", tried(x, "near 7", 0, 0), 20);
        Due.is("as it is", x.of(0, 2), 10);
        Due.pass(x, 1);
        Due.is("day 2", tried(x, "near 7", 0, 0), 30);
    }

    // RANK: an ALL 20 less, an OUT 5 more
    static void p33_rankOfKinds() {
        OneWire x = calls();
        int[] want = {0, 0, 5, -20};
        for (int call = 0; call < 4; call++) Due.is("call " + call, tried(x, "first 0 h<1", 0, call), want[call]);
        int[] usual = {50, 50, 55, 30};
        for (int call = 0; call < 4; call++) Due.is("call " + call, tried(x, "first 0 h>0", 0, call), usual[call]);
    }

    // 1 how many CALLS MAY BE TOLD on that DAY: none, all
    static void p33_howManyMayBeTold() {
        OneWire x = calls();
        Due.is("by no tell", tried(x, "near 7", 1, 0), 0);
        Due.is("none", tried(x, "tell k=0", 1, 0), 0);
        Due.is("all", tried(x, "tell h<1", 1, 0), 4);
        Due.is("without calls", tried(new OneWire(), "tell h<1", 1, 0), 0);
        OneWire y = new OneWire();
        y.farm(0, 0, 0);
        y.farm(0, 0, 0);
        for (int k = 0; k < 60; k++) y.ring(0, 1, 1);
        Due.is("all of 60", tried(y, "tell k=1", 1, 0), 60);
        y.minute(200);
        Due.is("whatever became of them", tried(y, "tell k=1", 1, 0), 60);
    }

    static void p33_toldOnThatDay() {
        OneWire x = calls();
        Due.rule(x, "tell k=1|k=2|k=3", 0);
        Due.rule(x, "tell k=1|k=2", 1);
        Due.rule(x, "tell k=9", 2);
        Due.is("day 0", tried(x, "near 7", 1, 0), 3);
        Due.pass(x, 199);
        Due.is("day 1", tried(x, "near 7", 1, 0), 2);
        Due.pass(x, 1);
        Due.is("day 2", tried(x, "near 7", 1, 0), 0);
    }

    static void p33_lastDay() {
        OneWire x = calls();
        Due.pass(x, 40099);
        Due.is("day 400", tried(x, "first 7 k=1", 0, 0), 7);
        Due.is("day 400, told", tried(x, "tell k=1", 1, 0), 1);
    }

    public static void main(String[] args) {
        Edges.run(EdgesMeetingsTest.class, 28, 33);
    }
}
