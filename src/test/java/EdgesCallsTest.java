/** Boundary cases of promises 11 to 14: calls that are asked. Each remark is the document's sentence. */
public final class EdgesCallsTest {
    private static final int NONE = Edges.NONE, BAD = Edges.BAD, FULL = Edges.FULL;
    private static final int MIN = Edges.MIN, MAX = Edges.MAX;
    private static final int KIND = 0, STATE = 1, RANK = 2, COSTS = 3, HOLDS = 4, WAITED = 5, LOUD = 6, FAINT = 7;

    /** Farms 0 and 1 on line 0 (posts 0 and 9, ears 0 and 9), 2 and 3 on line 3 (posts 0 and 9, ears 9 and 0). */
    private static OneWire farms() {
        OneWire x = new OneWire();
        x.farm(0, 0, 0);
        x.farm(0, 9, 9);
        x.farm(3, 0, 9);
        x.farm(3, 9, 0);
        return x;
    }

    private static OneWire with(String text) {
        OneWire x = farms();
        Due.rule(x, text, 0);
        return x;
    }

    private static OneWire full() {
        OneWire x = farms();
        for (int k = 0; k < 60; k++) x.ring(0, 1, 1);
        return x;
    }

    // ---- promise 11

    // NONE: farms
    static void p11_fromTooSmallOrTooLarge() {
        OneWire x = farms();
        for (int from : new int[] {-1, 4, 12, MIN, MAX}) Due.is("from " + from, x.ring(from, 0, 1), NONE);
    }

    static void p11_toTooSmallOrTooLarge() {
        OneWire x = farms();
        for (int to : new int[] {-1, 4, MIN, MAX}) Due.is("to " + to, x.ring(0, to, 1), NONE);
    }

    // 12 is no FARM, though there are 12
    static void p11_toTheBoard() {
        OneWire x = farms();
        for (int k = 4; k < 12; k++) x.farm(1, 0, 0);
        Due.is("to 12", x.ring(0, 12, 1), NONE);
        Due.is("from 12", x.ring(12, 0, 1), NONE);
        Due.is("to 11", x.ring(0, 11, 1), 0);
    }

    // BAD: one FARM
    static void p11_oneFarm() {
        OneWire x = farms();
        for (int farm = 0; farm < 4; farm++) Due.is("farm " + farm, x.ring(farm, farm, 1), BAD);
    }

    // each for so many minutes (1 .. 20 ..)
    static void p11_minutesTooFew() {
        OneWire x = farms();
        for (int minutes : new int[] {0, -1, MIN}) Due.is(minutes + " minutes", x.ring(0, 1, minutes), BAD);
        Due.is("1 minute", x.ring(0, 1, 1), 0);
    }

    static void p11_minutesTooMany() {
        OneWire x = with("long 999");
        for (int minutes : new int[] {21, 999, MAX}) Due.is(minutes + " minutes", x.ring(0, 1, minutes), BAD);
        Due.is("20 minutes", x.ring(0, 1, 20), 0);
        Due.is("of 20 minutes", x.as(0, 0), 20);
    }

    // no longer than long of THE RULE of the DAY; without any long 5
    static void p11_noLongerThanLong() {
        OneWire x = farms();
        Due.is("6 without any", x.ring(0, 1, 6), BAD);
        Due.is("5 without any", x.ring(0, 1, 5), 0);
        x = with("long 20");
        Due.is("21 of 20", x.ring(0, 1, 21), BAD);
        Due.is("20 of 20", x.ring(0, 1, 20), 0);
        x = with("long 1");
        Due.is("2 of 1", x.ring(0, 1, 2), BAD);
        Due.is("1 of 1", x.ring(0, 1, 1), 0);
        Due.is("1 of 0", with("long 0").ring(0, 1, 1), BAD);
    }

    // of the DAY: that of NOW
    static void p11_longOfTheDay() {
        OneWire x = with("long 1");
        Due.rule(x, "long 2", 1);
        Due.pass(x, 99);
        Due.is("2 in minute 99 of day 0", x.ring(0, 1, 2), BAD);
        Due.pass(x, 1);
        Due.is("2 in minute 0 of day 1", x.ring(0, 1, 2), 0);
    }

    // A RING (to a FARM on the LINE), or THROUGH
    static void p11_ringOrThrough() {
        OneWire x = farms();
        x.farm(0, 9, 0);
        x.ring(1, 4, 1);
        x.ring(1, 2, 1);
        Due.is("at one post", x.of(0, KIND), 1);
        Due.is("to another line", x.of(1, KIND), 2);
    }

    // CALLS are numbered from 0 on, 60 at most; FULL
    static void p11_the60thAndThe61st() {
        OneWire x = farms();
        for (int k = 0; k < 60; k++) Due.is("call " + k, x.ring(0, 1 + k % 3, 1), k);
        Due.is("a 61st", x.ring(0, 1, 1), FULL);
        Due.is("calls", x.count(2), 60);
        Due.is("it is not there", x.of(60, KIND), NONE);
    }

    // those that have ENDED are CALLS, too
    static void p11_fullOfEndedOnes() {
        OneWire x = full();
        Due.pass(x, 100);
        Due.is("none waits", x.count(4), 0);
        Due.is("a 61st", x.ring(0, 1, 1), FULL);
    }

    static void p11_noneAheadOfBad() {
        OneWire x = farms();
        Due.is("from and minutes", x.ring(4, 0, 0), NONE);
        Due.is("to and minutes", x.ring(0, -1, 6), NONE);
        Due.is("no farm twice", x.ring(4, 4, 1), NONE);
        Due.is("no farm twice", x.ring(-1, -1, 0), NONE);
    }

    static void p11_noneAndBadAheadOfFull() {
        OneWire x = full();
        Due.is("to", x.ring(0, 4, 1), NONE);
        Due.is("one farm", x.ring(0, 0, 1), BAD);
        Due.is("0 minutes", x.ring(0, 1, 0), BAD);
        Due.is("6 minutes", x.ring(0, 1, 6), BAD);
    }

    static void p11_refusedIsNoCall() {
        OneWire x = farms();
        x.ring(0, 4, 1);
        x.ring(0, 0, 1);
        x.ring(0, 1, 6);
        Due.is("calls", x.count(2), 0);
        Due.is("the next one", x.ring(0, 1, 1), 0);
    }

    // ---- promise 12

    // NONE: farm, kind
    static void p12_farmTooSmallOrTooLarge() {
        OneWire x = farms();
        for (int from : new int[] {-1, 4, 12, MIN, MAX}) {
            Due.is("out of " + from, x.call(3, from, 1), NONE);
            Due.is("to all of " + from, x.call(4, from, 1), NONE);
        }
    }

    static void p12_otherKinds() {
        OneWire x = farms();
        for (int kind : new int[] {-1, 0, 1, 2, 5, MIN, MAX}) Due.is("kind " + kind, x.call(kind, 0, 1), NONE);
        Due.is("kind 3", x.call(3, 0, 1), 0);
        Due.is("kind 4", x.call(4, 0, 1), 1);
        Due.is("it is an out", x.of(0, KIND), 3);
        Due.is("it is an all", x.of(1, KIND), 4);
    }

    // BAD: minutes (1 .. 20; no longer than long)
    static void p12_minutesTooFew() {
        OneWire x = farms();
        for (int kind = 3; kind <= 4; kind++) {
            for (int minutes : new int[] {0, -1, MIN}) Due.is(minutes + " minutes", x.call(kind, 0, minutes), BAD);
            Due.is("1 minute", x.call(kind, 0, 1), kind - 3);
        }
    }

    static void p12_minutesTooMany() {
        OneWire x = with("long 999");
        for (int kind = 3; kind <= 4; kind++) {
            for (int minutes : new int[] {21, 999, MAX}) Due.is(minutes + " minutes", x.call(kind, 0, minutes), BAD);
            Due.is("20 minutes", x.call(kind, 0, 20), kind - 3);
        }
    }

    static void p12_noLongerThanLong() {
        OneWire x = farms();
        Due.is("6 without any", x.call(3, 0, 6), BAD);
        Due.is("5 without any", x.call(3, 0, 5), 0);
        Due.is("6 without any", x.call(4, 0, 6), BAD);
        Due.is("5 without any", x.call(4, 0, 5), 1);
        Due.is("1 of 0", with("long 0").call(4, 0, 1), BAD);
        x = with("long 1");
        Due.rule(x, "long 2", 1);
        Due.pass(x, 99);
        Due.is("2 in minute 99 of day 0", x.call(3, 0, 2), BAD);
        Due.pass(x, 1);
        Due.is("2 in minute 0 of day 1", x.call(3, 0, 2), 0);
    }

    // 60 at most, of all KINDS; FULL
    static void p12_the60thAndThe61st() {
        OneWire x = farms();
        for (int k = 0; k < 60; k++) Due.is("call " + k, k % 3 == 0 ? x.ring(0, 1, 1) : x.call(2 + k % 3, 0, 1), k);
        Due.is("out", x.call(3, 0, 1), FULL);
        Due.is("to all", x.call(4, 0, 1), FULL);
        Due.is("calls", x.count(2), 60);
    }

    static void p12_noneAheadOfBad() {
        OneWire x = farms();
        Due.is("farm and minutes", x.call(3, 4, 0), NONE);
        Due.is("kind and minutes", x.call(2, 0, 6), NONE);
    }

    static void p12_noneAndBadAheadOfFull() {
        OneWire x = full();
        Due.is("farm", x.call(3, 4, 1), NONE);
        Due.is("kind", x.call(5, 0, 1), NONE);
        Due.is("0 minutes", x.call(3, 0, 0), BAD);
        Due.is("6 minutes", x.call(4, 0, 6), BAD);
    }

    static void p12_refusedIsNoCall() {
        OneWire x = farms();
        x.call(3, 4, 1);
        x.call(1, 0, 1);
        x.call(4, 0, 6);
        Due.is("calls", x.count(2), 0);
        Due.is("the next one", x.call(4, 0, 1), 0);
    }

    // ---- promise 13

    // NONE: there is no such CALL, what
    static void p13_callTooSmallOrTooLarge() {
        OneWire x = farms();
        x.ring(0, 1, 1);
        for (int what = 0; what < 8; what++) {
            for (int call : new int[] {-1, 1, 60, MIN, MAX}) Due.is("call " + call, x.of(call, what), NONE);
        }
    }

    static void p13_whatTooSmallOrTooLarge() {
        OneWire x = farms();
        x.ring(0, 1, 1);
        for (int what : new int[] {-1, 8, MIN, MAX}) Due.is("what " + what, x.of(0, what), NONE);
        Due.is("what 0", x.of(0, 0), 1);
        Due.is("what 7", x.of(0, 7), 0);
    }

    static void p13_allOfTheLastCall() {
        OneWire x = full();
        int[] want = {1, 0, 50, 1, 1, 0, 73, 0};
        for (int what = 0; what < 8; what++) Due.is("what " + what, x.of(59, what), want[what]);
    }

    // RANK: (RANK may be it, too)
    static void p13_rankBelow0() {
        OneWire x = with("first 19 l=0;first 0 l=3");
        x.call(4, 0, 1);
        x.call(4, 2, 1);
        x.call(3, 2, 1);
        Due.is("19 less 20", x.of(0, RANK), -1);
        Due.is("0 less 20", x.of(1, RANK), -20);
        Due.is("0 and 5", x.of(2, RANK), 5);
    }

    // an ALL 20 less, an OUT 5 more
    static void p13_rankOfKinds() {
        OneWire x = with("first 999 h<100");
        x.ring(0, 1, 1);
        x.ring(0, 2, 1);
        x.call(3, 0, 1);
        x.call(4, 0, 1);
        int[] want = {999, 999, 1004, 979};
        for (int call = 0; call < 4; call++) Due.is("call " + call, x.of(call, RANK), want[call]);
    }

    // on the DAY on which it was asked
    static void p13_rankOfTheDayAsked() {
        OneWire x = with("first 1 k=1");
        Due.rule(x, "first 2 k=1", 1);
        Due.rule(x, "first 3 k=1", 2);
        Due.pass(x, 99);
        x.ring(0, 1, 1);
        Due.pass(x, 1);
        x.ring(0, 1, 1);
        Due.pass(x, 99);
        x.ring(0, 1, 1);
        Due.pass(x, 1);
        x.ring(0, 1, 1);
        int[] want = {1, 2, 2, 3};
        for (int call = 0; call < 4; call++) Due.is("call " + call, x.of(call, RANK), want[call]);
    }

    // (by RULES told since, too)
    static void p13_rankByRulesToldSince() {
        OneWire x = farms();
        x.ring(0, 1, 1);
        Due.pass(x, 150);
        Due.is("without any", x.of(0, RANK), 50);
        Due.rule(x, "first 7 k=1", 1);
        Due.is("told since, from day 1 on", x.of(0, RANK), 50);
        Due.rule(x, "first 8 k=1", 0);
        Due.is("told since, from day 0 on", x.of(0, RANK), 8);
    }

    // COSTS: CALL its minutes; THROUGH 2 more than a CALL; OUT 3 times a THROUGH's; ALL 0
    static void p13_costs() {
        OneWire x = with("long 20");
        int[] minutes = {1, 20};
        int[][] want = {{1, 3, 9, 0}, {20, 22, 66, 0}};
        for (int k = 0; k < 2; k++) {
            x.ring(0, 1, minutes[k]);
            x.ring(0, 2, minutes[k]);
            x.call(3, 0, minutes[k]);
            x.call(4, 0, minutes[k]);
            for (int kind = 0; kind < 4; kind++) Due.is("kind " + (kind + 1), x.of(4 * k + kind, COSTS), want[k][kind]);
        }
    }

    // HOLDS: 1; THROUGH 2; OUT as a THROUGH
    static void p13_holds() {
        OneWire x = farms();
        x.ring(0, 1, 1);
        x.ring(0, 2, 1);
        x.call(3, 0, 1);
        Due.is("a ring", x.of(0, HOLDS), 1);
        Due.is("a through", x.of(1, HOLDS), 2);
        Due.is("an out", x.of(2, HOLDS), 2);
    }

    // ALL as many as FARMS are on the LINE now
    static void p13_holdsOfAll() {
        OneWire x = new OneWire();
        x.farm(1, 4, 0);
        x.call(4, 0, 1);
        Due.is("one", x.of(0, HOLDS), 1);
        x.farm(2, 4, 0);
        Due.is("not of another line", x.of(0, HOLDS), 1);
        Due.pass(x, 5);
        for (int k = 2; k < 12; k++) x.farm(1, 4, 0);
        Due.is("now, though it has ended", x.of(0, HOLDS), 11);
    }

    // WAITED: MINUTES from when it was asked till it was ON
    static void p13_waitedTillItWasOn() {
        OneWire x = farms();
        x.ring(0, 1, 3);
        x.ring(1, 0, 1);
        Due.is("not at all yet", x.of(0, WAITED), 0);
        x.minute(1);
        Due.is("on at once", x.of(0, WAITED), 0);
        Due.is("one so far", x.of(1, WAITED), 1);
        x.minute(200);
        Due.is("on at once, ended since", x.of(0, WAITED), 0);
        Due.is("till the other one ended", x.of(1, WAITED), 3);
    }

    // (or till NOW, if it was not)
    static void p13_waitedTillNow() {
        OneWire x = with("cords 0");
        x.minute(90);
        x.call(3, 0, 1);
        for (int k = 1; k <= 30; k++) {
            x.minute(1);
            Due.is("waiting", x.of(0, WAITED), k);
        }
        x.minute(1);
        Due.is("lost", x.of(0, STATE), 3);
        Due.is("till now", x.of(0, WAITED), 31);
        x.minute(200);
        Due.is("lost, till now", x.of(0, WAITED), 231);
    }

    private static int loud(OneWire x, int from, int to) {
        return x.of(to > 11 ? x.call(to - 12 + 3, from, 1) : x.ring(from, to, 1), LOUD);
    }

    // LOUD: 100 less 4 for each POST between both ends (both FARMS on one LINE: the difference of POSTS ..
    static void p13_loudOnOneLine() {
        OneWire x = farms();
        x.farm(0, 9, 0);
        x.farm(0, 8, 0);
        Due.is("nine posts", loud(x, 1, 0), 64);
        Due.is("none", loud(x, 1, 4), 100);
        Due.is("one", loud(x, 1, 5), 96);
        Due.is("one, back", loud(x, 5, 4), 96);
        Due.is("one, to ears", loud(x, 5, 1), 105);
    }

    // .. else of each FARM its POST and 1, to THE BOARD)
    static void p13_loudOverTheBoard() {
        OneWire x = farms();
        Due.is("one and ten", loud(x, 0, 3), 56);
        Due.is("ten and ten", loud(x, 1, 3), 20);
        Due.is("one and one, to ears", loud(x, 0, 2), 101);
        Due.is("ten and one, to ears", loud(x, 3, 1), 29);
    }

    // EARS of the FARM called are added: not of the FARM that calls
    static void p13_earsOfTheCalled() {
        OneWire x = farms();
        Due.is("to ears 9", loud(x, 0, 1), 73);
        Due.is("from ears 9", loud(x, 1, 0), 64);
    }

    // OUT: its own way, without EARS
    static void p13_loudOut() {
        OneWire x = farms();
        Due.is("one post", loud(x, 2, 12), 96);
        Due.is("ten posts", loud(x, 1, 12), 60);
    }

    // ALL: by the FARM on the LINE that is farthest by POSTS, without EARS
    static void p13_loudToAll() {
        OneWire x = farms();
        Due.is("to post 9", loud(x, 0, 13), 64);
        Due.is("to post 0", loud(x, 1, 13), 64);
        OneWire y = new OneWire();
        y.farm(1, 4, 9);
        y.farm(2, 9, 9);
        y.call(4, 0, 1);
        Due.is("alone on its line", y.of(0, LOUD), 100);
        y.farm(1, 4, 9);
        Due.is("all at one post", y.of(0, LOUD), 100);
        y.farm(1, 5, 9);
        Due.is("one post", y.of(0, LOUD), 96);
        y.farm(1, 1, 9);
        Due.is("the farthest, nearer to the board", y.of(0, LOUD), 88);
        y.farm(1, 9, 9);
        Due.is("the farthest", y.of(0, LOUD), 80);
    }

    // less 7 for each LISTENER
    static void p13_loudWithListeners() {
        OneWire x = farms();
        for (int k = 0; k < 8; k++) x.farm(0, 0, 0);
        x.ring(0, 1, 5);
        x.minute(1);
        for (int k = 0; k <= 8; k++) {
            Due.is(k + " listeners", x.of(0, LOUD), 73 - 7 * k);
            x.listen(4 + k, 0);
        }
        x.minute(10);
        Due.is("ended", x.of(0, LOUD), 17);
    }

    // EARS of the FARM called are added; 0 at least
    static void p13_loud0AtLeast() {
        OneWire x = new OneWire();
        for (int k = 0; k < 11; k++) x.farm(0, 9, 0);
        x.farm(3, 9, 9);
        x.ring(0, 11, 5);
        x.minute(1);
        int[] want = {29, 22, 15, 8, 1, 0, 0, 0, 0, 0, 0};
        for (int k = 0; k <= 10; k++) {
            Due.is(k + " listeners", x.of(0, LOUD), want[k]);
            x.listen(1 + k, 0);
        }
    }

    // FAINT: below near; (1, 0)
    static void p13_faintBelowNear() {
        OneWire x = farms();
        x.call(3, 1, 1);
        Due.is("without any, 60 and 40", x.of(0, FAINT), 0);
        Due.rule(x, "near 60", 0);
        Due.is("as loud as near", x.of(0, FAINT), 0);
        Due.rule(x, "near 61", 0);
        Due.is("one below", x.of(0, FAINT), 1);
        Due.rule(x, "near 59", 0);
        Due.is("one above", x.of(0, FAINT), 0);
    }

    static void p13_faintBelow40WithoutAny() {
        OneWire x = new OneWire();
        x.farm(0, 9, 0);
        x.farm(1, 4, 0);
        x.farm(1, 5, 0);
        x.ring(0, 1, 1);
        x.ring(0, 2, 1);
        Due.is("40", x.of(0, LOUD), 40);
        Due.is("40 is not", x.of(0, FAINT), 0);
        Due.is("36", x.of(1, LOUD), 36);
        Due.is("36 is", x.of(1, FAINT), 1);
    }

    // of THE RULE of the DAY on which it was asked
    static void p13_faintOfTheDayAsked() {
        OneWire x = with("near 60");
        Due.rule(x, "near 61", 1);
        Due.pass(x, 99);
        x.call(3, 1, 1);
        Due.pass(x, 1);
        x.call(3, 1, 1);
        Due.is("asked in minute 99 of day 0", x.of(0, FAINT), 0);
        Due.is("asked in minute 0 of day 1", x.of(1, FAINT), 1);
    }

    // ---- promise 14

    // NONE: call, k
    static void p14_callTooSmallOrTooLarge() {
        OneWire x = farms();
        x.ring(0, 1, 1);
        for (int call : new int[] {-1, 1, 60, MIN, MAX}) Due.is("call " + call, x.as(call, 0), NONE);
    }

    // a KIND k (0 .. 4)
    static void p14_kTooSmallOrTooLarge() {
        OneWire x = farms();
        x.ring(0, 1, 1);
        for (int k : new int[] {-1, 5, MIN, MAX}) Due.is("k " + k, x.as(0, k), NONE);
    }

    // taken for a KIND, or one under that: its minutes; -6: it is of another KIND
    static void p14_kindsUnderKinds() {
        OneWire x = farms();
        x.ring(0, 1, 1);
        x.ring(0, 2, 2);
        x.call(3, 0, 3);
        x.call(4, 0, 4);
        int[][] want = {{1, 1, -6, -6, -6}, {2, -6, 2, -6, -6}, {3, -6, 3, 3, -6}, {4, 4, -6, -6, 4}};
        for (int call = 0; call < 4; call++) {
            for (int k = 0; k < 5; k++) Due.is("call " + call + ", k " + k, x.as(call, k), want[call][k]);
        }
    }

    static void p14_leastAndMostMinutes() {
        OneWire x = with("long 20");
        x.ring(0, 1, 1);
        x.call(3, 0, 20);
        Due.is("1", x.as(0, 1), 1);
        Due.is("20", x.as(1, 3), 20);
    }

    public static void main(String[] args) {
        Edges.run(EdgesCallsTest.class, 11, 14);
    }
}
