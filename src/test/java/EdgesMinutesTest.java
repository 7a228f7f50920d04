/** Boundary cases of promises 15 to 18: minutes, the board, listeners. Each remark is the document's sentence. */
public final class EdgesMinutesTest {
    private static final int NONE = Edges.NONE, BAD = Edges.BAD, STATE = Edges.STATE;
    private static final int MIN = Edges.MIN, MAX = Edges.MAX;
    private static final int WAITING = 0, ON = 1, ENDED = 2, LOST = 3;

    /** Farms 0 and 1 on line 0, 2 and 3 on line 1, 4 and 5 on line 2, 6 and 7 on line 3, at posts 3 and 6 each. */
    private static OneWire farms() {
        OneWire x = new OneWire();
        for (int k = 0; k < 8; k++) x.farm(k / 2, k % 2 == 0 ? 3 : 6, 0);
        return x;
    }

    private static OneWire with(String text) {
        OneWire x = farms();
        Due.rule(x, text, 0);
        return x;
    }

    private static void states(String what, OneWire x, int... want) {
        for (int call = 0; call < want.length; call++) Due.is(what + ", call " + call, x.of(call, 1), want[call]);
    }

    /** To day 400, minute 0. */
    private static OneWire lastDay() {
        OneWire x = farms();
        Due.pass(x, 40000);
        return x;
    }

    // ---- promise 15

    // n MINUTES (1 .. 200) go by; BAD
    static void p15_nTooSmall() {
        OneWire x = farms();
        for (int n : new int[] {0, -1, -200, MIN}) Due.is("n " + n, x.minute(n), BAD);
        Due.is("now", x.count(3), 0);
        Due.is("n 1", x.minute(1), 1);
    }

    static void p15_nTooLarge() {
        OneWire x = farms();
        for (int n : new int[] {201, 40000, MAX}) Due.is("n " + n, x.minute(n), BAD);
        Due.is("now", x.count(3), 0);
        Due.is("n 200", x.minute(200), 200);
    }

    // BAD: also beyond DAY 400 (MINUTES of a DAY 0 .. 99)
    static void p15_lastMinuteOfTheLastDay() {
        OneWire x = lastDay();
        Due.is("100 more", x.minute(100), BAD);
        Due.is("200 more", x.minute(200), BAD);
        Due.is("now", x.count(3), 40000);
        Due.is("99 more", x.minute(99), 40099);
        Due.is("one more", x.minute(1), BAD);
        Due.is("MAX more", x.minute(MAX), BAD);
        Due.is("now", x.count(3), 40099);
    }

    static void p15_oneTooMany() {
        OneWire x = lastDay();
        x.minute(50);
        Due.is("50 more", x.minute(50), BAD);
        Due.is("now", x.count(3), 40050);
        Due.is("49 more", x.minute(49), 40099);
    }

    // They change nothing: no CALL is ON by a refused minute
    static void p15_refusedNoMinuteGoesBy() {
        OneWire x = farms();
        x.ring(0, 1, 1);
        x.minute(0);
        x.minute(201);
        states("none went by", x, WAITING);
        OneWire y = lastDay();
        y.ring(0, 1, 1);
        y.minute(100);
        states("none went by", y, WAITING);
    }

    // 4 NOW is one more (from MINUTE 99 to the next DAY)
    static void p15_fromMinute99ToTheNextDay() {
        OneWire x = with("tell h>98");
        Due.is("99", x.minute(99), 99);
        x.ring(0, 1, 1);
        Due.is("100", x.minute(1), 100);
        x.ring(0, 1, 1);
        Due.is("it was asked in minute 99", x.force(5, 0, 0), 1);
        Due.is("it was asked in minute 0", x.force(5, 1, 0), 0);
        Due.is("on day 1 a payment of day 1", x.pay(0, 0, 5), 5);
        Due.is("behind on day 1", x.behind(0, 1), -5);
        Due.is("not on day 0", x.behind(0, 0), 0);
    }

    // many minutes are as one by one
    static void p15_manyAsOneByOne() {
        OneWire x = farms(), y = farms();
        for (int k = 0; k < 8; k++) {
            x.ring(k, (k + 3) % 8, 1 + k % 5);
            y.ring(k, (k + 3) % 8, 1 + k % 5);
        }
        for (int k = 0; k < 40; k++) x.minute(1);
        y.minute(40);
        for (int call = 0; call < 8; call++) {
            Due.is("state of " + call, y.of(call, 1), x.of(call, 1));
            Due.is("waited of " + call, y.of(call, 5), x.of(call, 5));
        }
    }

    // 1 CALLS that are ON and have had their minutes are ENDED
    static void p15_hadTheirMinutes() {
        OneWire x = with("long 20");
        x.ring(0, 1, 1);
        x.ring(2, 3, 20);
        x.minute(1);
        states("on", x, ON, ON);
        x.minute(1);
        states("a minute had", x, ENDED, ON);
        x.minute(18);
        states("19 had", x, ENDED, ON);
        x.minute(1);
        states("20 had", x, ENDED, ENDED);
    }

    // from NOW on: over the end of a DAY, too
    static void p15_onOverMidnight() {
        OneWire x = farms();
        x.minute(98);
        x.ring(0, 1, 3);
        x.minute(3);
        states("minute 1 of day 1", x, ON);
        x.minute(1);
        states("minute 2 of day 1", x, ENDED);
    }

    // 1 ahead of 2: a LINE is free in the MINUTE in which its CALL is ENDED
    static void p15_freeAsItEnds() {
        OneWire x = farms();
        x.ring(0, 1, 2);
        x.ring(1, 0, 2);
        x.minute(2);
        states("it has the line", x, ON, WAITING);
        x.minute(1);
        states("the other one has it", x, ENDED, ON);
        Due.is("it waited", x.of(1, 5), 2);
    }

    // 2 WAITING ones by RANK, the least first
    static void p15_leastRankFirst() {
        OneWire x = with("first 31 k=1;first 29 k=3;first 54 k=4");
        x.call(4, 0, 1);
        x.call(3, 0, 1);
        x.ring(0, 1, 1);
        x.minute(1);
        states("34, 34 and 31", x, WAITING, WAITING, ON);
        x.minute(1);
        states("of like ones by numbers", x, ON, WAITING, ENDED);
    }

    // of like ones by numbers
    static void p15_likeOnesByNumbers() {
        OneWire x = farms();
        for (int k = 0; k < 6; k++) x.ring(k % 2, 1 - k % 2, 1);
        for (int k = 0; k < 6; k++) {
            x.minute(1);
            Due.is("minute " + k, x.board(0, 0), k);
        }
    }

    // by RANK: of many, however they were asked one behind another
    static void p15_manyRanks() {
        OneWire x = with("first 50 f=0;first 40 f=1;first 45 f=2;first 10 f=3;first 48 f=4;first 42 f=5;first 44 f=6");
        int[] from = {0, 1, 2, 3, 4, 5, 6, 2, 0}, on = {3, 1, 5, 6, 2, 7, 4, 0, 8};
        for (int farm : from) x.ring(farm, 7, 1);
        for (int k = 0; k < 9; k++) {
            x.minute(1);
            Due.is("minute " + k, x.board(3, 0), on[k]);
        }
        OneWire y = with("first 50 f=0;first 40 f=1;first 45 f=2;first 10 f=3;first 48 f=4;first 42 f=5;first 44 f=6");
        for (int farm : from) y.ring(farm, 7, 1);
        y.minute(9);
        for (int k = 0; k < 9; k++) Due.is("waited " + on[k], y.of(on[k], 5), k);
    }

    // RANK: .. on the DAY on which it was asked, as they wait, too
    static void p15_rankOfTheDayAsked() {
        OneWire x = with("first 60 k=1");
        Due.rule(x, "first 40 k=1", 1);
        x.minute(97);
        x.ring(2, 3, 4);
        x.ring(3, 2, 1);
        x.minute(3);
        x.ring(2, 3, 1);
        x.minute(2);
        states("that of day 1, 40, ahead of that of day 0, 60", x, ENDED, WAITING, ON);
        OneWire y = with("first 40 k=1");
        Due.rule(y, "first 60 k=1", 1);
        y.minute(97);
        y.ring(2, 3, 4);
        y.ring(3, 2, 1);
        y.minute(3);
        y.ring(2, 3, 1);
        y.minute(2);
        states("that of day 0, 40, ahead of that of day 1, 60", y, ENDED, ON, WAITING);
    }

    // by RANK: also below 0
    static void p15_rankBelow0First() {
        OneWire x = with("first 0 f=0;first 1 f=1;first 0 k=1");
        x.ring(0, 1, 1);
        x.call(4, 1, 1);
        x.call(4, 0, 1);
        x.minute(1);
        Due.is("-20", x.board(0, 0), 2);
        x.minute(1);
        Due.is("-19", x.board(0, 0), 1);
        x.minute(1);
        Due.is("0", x.board(0, 0), 0);
    }

    // RANK .. by RULES told since: those that wait are lined up anew
    static void p15_rankToldSince() {
        OneWire x = farms();
        x.ring(0, 1, 1);
        x.ring(0, 1, 1);
        x.ring(1, 0, 1);
        x.minute(1);
        Due.rule(x, "first 49 f=1", 0);
        x.minute(1);
        states("the third one first", x, ENDED, WAITING, ON);
    }

    private static int stateBehind(int kind, int from, int to, int line, int wire) {
        OneWire x = farms();
        x.down(line, wire, true);
        if (kind > 2) x.call(kind, from, 1);
        else x.ring(from, to, 1);
        x.minute(1);
        return x.of(0, 1);
    }

    private static void lostBy(int kind, int from, int to, int line, int first, int last) {
        for (int wire = 0; wire < 10; wire++) {
            int want = wire >= first && wire <= last ? LOST : ON;
            Due.is("kind " + kind + ", " + from + " to " + to + ", wire " + wire + " of " + line,
                stateBehind(kind, from, to, line, wire), want);
        }
    }

    // one for which a WIRE between it and THE BOARD is DOWN is LOST
    static void p15_lostOut() {
        lostBy(3, 0, 12, 0, 0, 3);
        lostBy(3, 7, 12, 3, 0, 6);
        lostBy(3, 0, 12, 1, 10, 10);
    }

    static void p15_lostAll() {
        lostBy(4, 0, 12, 0, 0, 3);
        lostBy(4, 5, 12, 2, 0, 6);
        lostBy(4, 5, 12, 3, 10, 10);
    }

    // (of a THROUGH: either FARM)
    static void p15_lostThrough() {
        lostBy(2, 0, 7, 0, 0, 3);
        lostBy(2, 0, 7, 3, 0, 6);
        lostBy(2, 3, 4, 1, 0, 6);
        lostBy(2, 3, 4, 2, 0, 3);
        lostBy(2, 3, 4, 0, 10, 10);
    }

    // (or, of a RING, between both FARMS)
    static void p15_lostRing() {
        lostBy(1, 0, 1, 0, 4, 6);
        lostBy(1, 7, 6, 3, 4, 6);
        lostBy(1, 0, 1, 1, 10, 10);
        OneWire x = new OneWire();
        x.farm(1, 5, 0);
        x.farm(1, 5, 0);
        for (int wire = 0; wire < 10; wire++) x.down(1, wire, true);
        x.ring(0, 1, 1);
        x.minute(1);
        states("at one post", x, ON);
    }

    // LOST; else, if all it NEEDS is free: LOST though the LINE is taken
    static void p15_lostThoughItMustWait() {
        OneWire x = farms();
        x.ring(0, 1, 5);
        x.ring(1, 0, 1);
        x.ring(1, 2, 1);
        x.minute(1);
        x.down(0, 5, true);
        x.minute(1);
        states("both are lost, what is on stays on", x, ON, LOST, LOST);
    }

    // A WIRE that was DOWN while no MINUTE went by loses nobody
    static void p15_upAgain() {
        OneWire x = farms();
        x.ring(0, 1, 1);
        x.down(0, 5, true);
        x.down(0, 5, false);
        x.minute(1);
        states("up again", x, ON);
    }

    // (a LINE has one CALL at a time ..)
    static void p15_oneCallOnALine() {
        OneWire x = farms();
        x.ring(0, 1, 2);
        x.call(4, 0, 1);
        x.ring(2, 3, 2);
        x.ring(2, 0, 1);
        x.call(3, 3, 1);
        x.call(4, 4, 1);
        x.minute(1);
        states("an all first", x, WAITING, ON, ON, WAITING, WAITING, ON);
        x.minute(1);
        states("line 1 is still taken", x, ON, ENDED, ON, WAITING, WAITING, ENDED);
        x.minute(1);
        states("out from line 1 comes behind the through", x, ON, ENDED, ENDED, WAITING, ON, ENDED);
        x.minute(1);
        states("both lines are free", x, ENDED, ENDED, ENDED, ON, ENDED, ENDED);
    }

    // THROUGH both LINES: the LINE of either
    static void p15_throughNeedsBothLines() {
        OneWire x = farms();
        x.ring(0, 1, 1);
        x.ring(2, 0, 1);
        x.ring(4, 5, 1);
        x.ring(4, 2, 1);
        x.minute(1);
        states("the line called, the line that calls", x, ON, WAITING, ON, WAITING);
        x.minute(1);
        states("line 1 is one's", x, ENDED, ON, ENDED, WAITING);
        Due.is("line 0", x.board(0, 0), 1);
        Due.is("line 1", x.board(1, 0), 1);
        Due.is("line 2 is kept by none", x.board(2, 0), NONE);
    }

    // as many cords as THE RULE of the DAY says; without any cords 2
    static void p15_cords() {
        String[] rules = {"cords 0", "cords 1", "near 1", "cords 3", "cords 4", "cords 999"};
        int[] want = {0, 1, 2, 3, 4, 4};
        for (int k = 0; k < 6; k++) {
            OneWire x = with(rules[k]);
            for (int farm = 0; farm < 8; farm += 2) x.call(3, farm, 1);
            x.minute(1);
            Due.is(rules[k], x.board(0, 1), want[k]);
            Due.is(rules[k] + ", on", x.count(5), want[k]);
        }
    }

    // THROUGH .. a cord; OUT .. a cord; RING, ALL their LINE
    static void p15_whatNeedsACord() {
        OneWire x = with("cords 1");
        x.ring(0, 2, 2);
        x.call(3, 4, 1);
        x.ring(6, 7, 1);
        x.minute(1);
        states("a through has it", x, ON, WAITING, ON);
        x.minute(1);
        x.call(4, 6, 1);
        x.minute(1);
        states("an out has it", x, ENDED, ON, ENDED, ON);
        OneWire y = with("cords 0");
        y.ring(0, 1, 1);
        y.call(4, 2, 1);
        y.ring(4, 6, 1);
        y.call(3, 4, 1);
        y.minute(1);
        states("without any cord", y, ON, ON, WAITING, WAITING);
    }

    // THE RULE of the DAY: in the MINUTE that goes by
    static void p15_cordsOfTheDay() {
        OneWire x = with("cords 0");
        Due.rule(x, "cords 1", 1);
        x.minute(90);
        x.call(3, 0, 1);
        x.minute(10);
        states("minute 99 went by", x, WAITING);
        x.minute(1);
        states("minute 0 of day 1 went by", x, ON);
        OneWire y = with("cords 0");
        Due.rule(y, "cords 1", 1);
        y.minute(90);
        y.call(3, 0, 1);
        y.minute(20);
        Due.is("all at once", y.of(0, 5), 10);
        states("all at once", y, ENDED);
    }

    // fewer cords than are used: those that are ON stay so
    static void p15_fewerCordsThanAreUsed() {
        OneWire x = with("cords 3");
        Due.rule(x, "cords 1", 1);
        x.minute(99);
        for (int farm = 0; farm < 6; farm += 2) x.call(3, farm, 5);
        x.call(3, 6, 1);
        x.minute(5);
        states("three are on", x, ON, ON, ON, WAITING);
        Due.is("cords", x.board(0, 1), 3);
        x.minute(1);
        states("now the fourth", x, ENDED, ENDED, ENDED, ON);
    }

    // 3 WAITING ones that were asked 30 MINUTES ago, or more, are LOST
    static void p15_asked30MinutesAgo() {
        OneWire x = with("cords 0");
        x.minute(85);
        x.call(3, 0, 1);
        x.minute(30);
        states("minute 29 of it went by", x, WAITING);
        Due.is("none is lost", x.count(6), 0);
        x.minute(1);
        states("minute 30 of it went by", x, LOST);
        Due.is("one is lost", x.count(6), 1);
    }

    // 2 ahead of 3: free when it was asked 30 MINUTES ago
    static void p15_onInItsLastMinute() {
        OneWire x = with("cords 0");
        Due.rule(x, "cords 1", 1);
        x.minute(70);
        x.call(3, 0, 1);
        x.minute(30);
        x.call(3, 2, 1);
        x.minute(1);
        states("it is on", x, ON, WAITING);
        Due.is("it waited", x.of(0, 5), 30);
        OneWire y = with("cords 0");
        Due.rule(y, "cords 1", 1);
        y.minute(69);
        y.call(3, 0, 1);
        y.minute(32);
        states("lost a minute ahead", y, LOST);
    }

    // STATES: what is ENDED or LOST stays so
    static void p15_endedAndLostStay() {
        OneWire x = farms();
        x.ring(0, 1, 1);
        x.ring(2, 3, 1);
        x.down(1, 5, true);
        x.minute(2);
        states("ended and lost", x, ENDED, LOST);
        x.down(1, 5, false);
        x.minute(200);
        states("still", x, ENDED, LOST);
    }

    static void p15_60Calls() {
        OneWire x = farms();
        for (int k = 0; k < 60; k++) x.ring(k % 8, k % 8 ^ 1, 1);
        Due.is("all wait", x.count(4), 60);
        x.minute(1);
        Due.is("one on each line", x.count(5), 4);
        Due.is("the others wait", x.count(4), 56);
        // 16 on lines 0 and 1, 14 on the others
        x.minute(14);
        Due.is("two wait", x.count(4), 2);
        x.minute(1);
        Due.is("none waits", x.count(4), 0);
        Due.is("two are on", x.count(5), 2);
        x.minute(1);
        Due.is("none is on", x.count(5), 0);
        Due.is("the last one waited", x.of(59, 5), 15);
    }

    // ---- promise 16

    // NONE: line
    static void p16_lineTooSmallOrTooLarge() {
        OneWire x = farms();
        for (int k = 0; k < 8; k += 2) x.ring(k, k + 1, 1);
        x.minute(1);
        for (int line : new int[] {-1, 4, MIN, MAX}) Due.is("line " + line, x.board(line, 0), NONE);
        for (int line = 0; line < 4; line++) Due.is("line " + line, x.board(line, 0), line);
    }

    // how many cords are used (1; the LINE does not matter)
    static void p16_lineDoesNotMatter() {
        OneWire x = farms();
        x.call(3, 0, 1);
        x.minute(1);
        for (int line : new int[] {-1, 0, 3, 4, MIN, MAX}) Due.is("cords, line " + line, x.board(line, 1), 1);
    }

    // NONE: what
    static void p16_whatTooSmallOrTooLarge() {
        OneWire x = farms();
        x.call(3, 0, 1);
        x.minute(1);
        for (int what : new int[] {-1, 2, MIN, MAX}) {
            Due.is("what " + what, x.board(0, what), NONE);
            Due.is("what " + what + " of no line", x.board(4, what), NONE);
        }
    }

    // NONE: none has it
    static void p16_noneHasIt() {
        OneWire x = farms();
        x.ring(0, 1, 1);
        Due.is("it waits", x.board(0, 0), NONE);
        x.minute(1);
        Due.is("it is on", x.board(0, 0), 0);
        Due.is("another line", x.board(1, 0), NONE);
        x.minute(1);
        Due.is("it has ended", x.board(0, 0), NONE);
        x.down(0, 5, true);
        x.ring(0, 1, 1);
        x.minute(1);
        Due.is("it is lost", x.board(0, 0), NONE);
    }

    // The CALL that has a LINE: a THROUGH both, an OUT and an ALL its own
    static void p16_whichLines() {
        OneWire x = farms();
        x.ring(7, 0, 1);
        x.call(3, 2, 1);
        x.call(4, 4, 1);
        x.minute(1);
        int[] want = {0, 1, 2, 0};
        for (int line = 0; line < 4; line++) Due.is("line " + line, x.board(line, 0), want[line]);
    }

    // how many cords are used: by THROUGH and OUT that are ON
    static void p16_cordsUsed() {
        OneWire x = farms();
        Due.is("none", x.board(0, 1), 0);
        x.ring(0, 2, 1);
        x.call(3, 4, 2);
        x.ring(6, 7, 1);
        Due.is("while they wait", x.board(0, 1), 0);
        x.minute(1);
        Due.is("two", x.board(0, 1), 2);
        x.minute(1);
        Due.is("one has ended", x.board(0, 1), 1);
        x.minute(1);
        Due.is("none", x.board(0, 1), 0);
    }

    // ---- promise 17

    /** Call 0 a ring of 0 and 1 on line 0, call 1 a through of 2 and 4, both on; farms 8 to 11 on lines 0 to 3. */
    private static OneWire taken() {
        OneWire x = farms();
        for (int line = 0; line < 4; line++) x.farm(line, 0, 0);
        x.ring(0, 1, 2);
        x.ring(2, 4, 2);
        x.minute(1);
        return x;
    }

    // NONE: farm
    static void p17_farmTooSmallOrTooLarge() {
        OneWire x = taken();
        for (int farm : new int[] {-1, 12, 32, 40, MIN, MAX}) Due.is("farm " + farm, x.listen(farm, 0), NONE);
        OneWire y = farms();
        y.ring(0, 1, 1);
        y.minute(1);
        Due.is("farm 8 of 8", y.listen(8, 0), NONE);
    }

    // NONE: call
    static void p17_callTooSmallOrTooLarge() {
        OneWire x = taken();
        for (int call : new int[] {-1, 2, 60, MIN, MAX}) Due.is("call " + call, x.listen(8, call), NONE);
    }

    static void p17_noneAheadOfState() {
        OneWire x = farms();
        x.ring(0, 1, 1);
        Due.is("it waits, no such farm", x.listen(8, 0), NONE);
        Due.is("in no such call", x.listen(0, 1), NONE);
    }

    // STATE: the CALL is not ON
    static void p17_notOn() {
        OneWire x = farms();
        x.farm(0, 0, 0);
        x.ring(0, 1, 1);
        Due.is("it waits", x.listen(8, 0), STATE);
        x.minute(1);
        Due.is("it is on", x.listen(8, 0), 1);
        x.minute(1);
        x.farm(0, 0, 0);
        Due.is("it has ended", x.listen(9, 0), STATE);
        x.down(0, 5, true);
        x.ring(0, 1, 1);
        x.minute(1);
        Due.is("it is lost", x.listen(8, 1), STATE);
    }

    // STATE: the FARM is in it
    static void p17_inIt() {
        OneWire x = taken();
        Due.is("that calls", x.listen(0, 0), STATE);
        Due.is("that is called", x.listen(1, 0), STATE);
        Due.is("that calls through", x.listen(2, 1), STATE);
        Due.is("that is called through", x.listen(4, 1), STATE);
        x.call(3, 6, 1);
        x.minute(1);
        Due.is("that calls out", x.listen(6, 2), STATE);
        Due.is("another one", x.listen(7, 2), 1);
    }

    // of an ALL all on the LINE are in it
    static void p17_inAnAll() {
        OneWire x = farms();
        x.call(4, 0, 5);
        x.minute(1);
        Due.is("that calls", x.listen(0, 0), STATE);
        Due.is("on the line", x.listen(1, 0), STATE);
        Due.is("on another line", x.listen(2, 0), STATE);
        x.farm(0, 0, 0);
        Due.is("that came since", x.listen(8, 0), STATE);
        Due.is("as loud as to the farthest", x.of(0, 6), 88);
    }

    // STATE: not on a LINE that it NEEDS
    static void p17_onAnotherLine() {
        OneWire x = taken();
        int[] ring = {1, STATE, STATE, STATE}, through = {STATE, 1, 2, STATE};
        for (int line = 0; line < 4; line++) {
            Due.is("a ring on line 0, from line " + line, x.listen(8 + line, 0), ring[line]);
            Due.is("a through of lines 1 and 2, from line " + line, x.listen(8 + line, 1), through[line]);
        }
    }

    // STATE: took up
    static void p17_tookUp() {
        OneWire x = taken();
        Due.is("first", x.listen(8, 0), 1);
        Due.is("again", x.listen(8, 0), STATE);
        Due.is("still one", x.of(0, 6), 100 - 12 - 7);
        x.minute(2);
        x.ring(0, 1, 1);
        x.minute(1);
        Due.is("another call", x.listen(8, 2), 1);
    }

    // LISTENERS of the CALL: one, and as many as can be
    static void p17_leastAndMost() {
        OneWire x = new OneWire();
        for (int k = 0; k < 12; k++) x.farm(1, 0, 0);
        x.ring(11, 0, 1);
        x.minute(1);
        for (int k = 1; k <= 10; k++) Due.is("farm " + k, x.listen(k, 0), k);
        OneWire y = new OneWire();
        for (int k = 0; k < 12; k++) y.farm(1, 0, 0);
        y.call(3, 5, 1);
        y.minute(1);
        int many = 0;
        for (int k = 0; k < 12; k++) if (k != 5) Due.is("out, farm " + k, y.listen(k, 0), ++many);
    }

    // ---- promise 18

    // NONE
    static void p18_callTooSmallOrTooLarge() {
        OneWire x = taken();
        for (int call : new int[] {-1, 2, 60, MIN, MAX}) Due.is("call " + call, x.heard(call), NONE);
    }

    // (CALLS that are WAITING or LOST: none)
    static void p18_waitingOrLost() {
        OneWire x = farms();
        x.ring(0, 1, 5);
        x.call(4, 2, 1);
        Due.is("a ring that waits", x.heard(0), 0);
        Due.is("an all that waits", x.heard(1), 0);
        x.down(0, 5, true);
        x.down(1, 0, true);
        x.minute(1);
        Due.is("a ring that is lost", x.heard(0), 0);
        Due.is("an all that is lost", x.heard(1), 0);
    }

    // HEARD: by a FARM that .. is in the CALL
    static void p18_inTheCall() {
        OneWire x = farms();
        x.ring(0, 1, 1);
        x.ring(2, 7, 1);
        x.call(3, 5, 1);
        x.minute(1);
        Due.is("a ring", x.heard(0), 1 | 2);
        Due.is("a through", x.heard(1), 1 << 2 | 1 << 7);
        Due.is("an out", x.heard(2), 1 << 5);
    }

    // (of an ALL: all on the LINE)
    static void p18_allOnTheLine() {
        OneWire x = new OneWire();
        for (int k = 0; k < 12; k++) x.farm(3, 9, 0);
        x.call(4, 11, 1);
        x.minute(1);
        Due.is("all twelve", x.heard(0), 4095);
        OneWire y = farms();
        y.call(4, 7, 1);
        y.minute(1);
        Due.is("of its line alone", y.heard(0), 1 << 6 | 1 << 7);
    }

    // by a FARM that took up
    static void p18_thatTookUp() {
        OneWire x = taken();
        x.listen(8, 0);
        x.listen(10, 1);
        Due.is("a ring", x.heard(0), 1 | 2 | 1 << 8);
        Due.is("a through", x.heard(1), 1 << 2 | 1 << 4 | 1 << 10);
        x.minute(5);
        Due.is("a ring that has ended", x.heard(0), 1 | 2 | 1 << 8);
        Due.is("a through that has ended", x.heard(1), 1 << 2 | 1 << 4 | 1 << 10);
    }

    public static void main(String[] args) {
        Edges.run(EdgesMinutesTest.class, 15, 18);
    }
}
