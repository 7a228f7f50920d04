/** Boundary cases of promises 24 to 27: dues, what is paid, the town. Each remark is the document's sentence. */
public final class EdgesDuesTest {
    private static final int NONE = Edges.NONE, BAD = Edges.BAD, FULL = Edges.FULL;
    private static final int MIN = Edges.MIN, MAX = Edges.MAX;

    /** Two farms that came on day 0, and nothing is due but 10 coins for 30 days. */
    private static OneWire farms() {
        OneWire x = new OneWire();
        x.farm(0, 0, 0);
        x.farm(3, 9, 9);
        Due.rule(x, "dues 10;work 0", 0);
        return x;
    }

    /** To a minute of a day. */
    private static void to(OneWire x, int day, int minute) {
        Due.pass(x, 100 * day + minute - x.count(3));
    }

    // ---- promise 24

    // NONE
    static void p24_farmTooSmallOrTooLarge() {
        OneWire x = farms();
        for (int farm : new int[] {-1, 2, 12, MIN, MAX}) Due.is("farm " + farm, x.pay(farm, 0, 1), NONE);
    }

    static void p24_whatTooSmallOrTooLarge() {
        OneWire x = farms();
        for (int what : new int[] {-1, 2, MIN, MAX}) Due.is("what " + what, x.pay(0, what, 1), NONE);
    }

    // n 1 .. 999; BAD
    static void p24_nTooSmall() {
        OneWire x = farms();
        for (int what = 0; what < 2; what++) {
            for (int n : new int[] {0, -1, MIN}) Due.is("n " + n, x.pay(0, what, n), BAD);
            Due.is("n 1", x.pay(0, what, 1), 1);
        }
    }

    static void p24_nTooLarge() {
        OneWire x = farms();
        for (int what = 0; what < 2; what++) {
            for (int n : new int[] {1000, 65536, MAX}) Due.is("n " + n, x.pay(1, what, n), BAD);
            Due.is("n 999", x.pay(1, what, 999), 999);
        }
    }

    static void p24_noneAheadOfBad() {
        OneWire x = farms();
        Due.is("farm and n", x.pay(2, 0, 0), NONE);
        Due.is("what and n", x.pay(0, 2, 1000), NONE);
    }

    // FULL: 60 of all
    static void p24_the60thAndThe61st() {
        OneWire x = farms();
        for (int k = 1; k <= 30; k++) {
            Due.is("coins", x.pay(0, 0, 1), k);
            Due.is("work of another", x.pay(1, 1, 1), k);
        }
        Due.is("coins", x.pay(0, 0, 1), FULL);
        Due.is("work", x.pay(0, 1, 1), FULL);
        Due.is("coins of another", x.pay(1, 0, 1), FULL);
        Due.is("30 coins", x.behind(0, 0), -30);
        Due.is("30 days of work", x.behind(1, 0), -90);
    }

    static void p24_refusalsAheadOfFull() {
        OneWire x = farms();
        for (int k = 0; k < 60; k++) x.pay(0, 0, 1);
        Due.is("farm", x.pay(2, 0, 1), NONE);
        Due.is("what", x.pay(0, 2, 1), NONE);
        Due.is("n", x.pay(0, 0, 0), BAD);
        Due.is("n", x.pay(0, 0, 1000), BAD);
    }

    // all that the FARM PAID so: of that FARM and of that what
    static void p24_allThatItPaidSo() {
        OneWire x = farms();
        Due.is("5 coins", x.pay(0, 0, 5), 5);
        Due.is("7 days", x.pay(0, 1, 7), 7);
        Due.is("another's coins", x.pay(1, 0, 3), 3);
        to(x, 1, 0);
        Due.is("6 more coins", x.pay(0, 0, 6), 11);
        Due.is("8 more days", x.pay(0, 1, 8), 15);
        Due.is("another's days", x.pay(1, 1, 2), 2);
    }

    static void p24_mostOfAll() {
        OneWire x = farms();
        for (int k = 1; k <= 60; k++) Due.is("paid", x.pay(0, 1, 999), 999 * k);
        Due.is("3 for each", x.behind(0, 0), -3 * 999 * 60);
    }

    // on the DAY of NOW
    static void p24_onTheDayOfNow() {
        OneWire x = farms();
        to(x, 5, 99);
        x.pay(0, 0, 1);
        to(x, 6, 0);
        x.pay(0, 0, 2);
        Due.is("day 4", x.behind(0, 4), 0);
        Due.is("day 5", x.behind(0, 5), -1);
        Due.is("day 6", x.behind(0, 6), -3);
    }

    static void p24_refusedIsNotPaid() {
        OneWire x = farms();
        x.pay(0, 0, 0);
        x.pay(0, 0, 1000);
        x.pay(0, 2, 5);
        Due.is("behind", x.behind(0, 0), 0);
        Due.is("the next one", x.pay(0, 0, 5), 5);
    }

    // ---- promise 25

    // NONE: farm
    static void p25_farmTooSmallOrTooLarge() {
        OneWire x = farms();
        for (int farm : new int[] {-1, 2, 12, MIN, MAX}) Due.is("farm " + farm, x.behind(farm, 0), NONE);
    }

    // on a DAY (up to that of NOW); BAD: day
    static void p25_dayTooSmall() {
        OneWire x = farms();
        to(x, 3, 0);
        for (int day : new int[] {-1, MIN}) Due.is("day " + day, x.behind(0, day), BAD);
        Due.is("day 0", x.behind(0, 0), 0);
    }

    static void p25_dayTooLarge() {
        OneWire x = farms();
        to(x, 30, 0);
        for (int day : new int[] {31, 401, MAX}) Due.is("day " + day, x.behind(0, day), BAD);
        Due.is("that of now", x.behind(0, 30), 10);
        to(x, 30, 99);
        Due.is("not the next one yet", x.behind(0, 31), BAD);
        to(x, 31, 0);
        Due.is("now it is", x.behind(0, 31), 10);
    }

    static void p25_lastDay() {
        OneWire x = farms();
        to(x, 400, 99);
        Due.is("day 400", x.behind(0, 400), 130);
        Due.is("day 401", x.behind(0, 401), BAD);
    }

    static void p25_noneAheadOfBad() {
        OneWire x = farms();
        Due.is("farm and day", x.behind(2, 1), NONE);
        Due.is("farm and day", x.behind(-1, -1), NONE);
    }

    // (BEHIND may be it, too): it may be below 0
    static void p25_below0() {
        OneWire x = farms();
        to(x, 30, 0);
        x.pay(0, 0, 11);
        Due.is("-1", x.behind(0, 30), -1);
        x.pay(1, 1, 4);
        Due.is("-2", x.behind(1, 30), -2);
    }

    static void p25_0() {
        OneWire x = farms();
        to(x, 30, 0);
        x.pay(0, 0, 10);
        Due.is("0", x.behind(0, 30), 0);
    }

    // ahead of when the FARM came: 0
    static void p25_aheadOfWhenItCame() {
        OneWire x = farms();
        to(x, 40, 50);
        x.farm(1, 1, 1);
        x.pay(2, 0, 5);
        Due.is("day 0", x.behind(2, 0), 0);
        Due.is("day 39", x.behind(2, 39), 0);
        Due.is("day 40", x.behind(2, 40), -5);
        Due.is("one of day 0 on day 40", x.behind(0, 40), 10);
    }

    // for each whole 30 DAYS since it came .. (they are due from the next one on)
    static void p25_eachWhole30Days() {
        OneWire x = farms();
        to(x, 7, 99);
        x.farm(1, 1, 1);
        to(x, 130, 0);
        int[][] want = {{29, 10 - 10}, {30, 10}, {59, 10}, {60, 20}, {89, 20}, {90, 30}, {120, 40}, {130, 40}};
        for (int[] w : want) Due.is("of day 0, day " + w[0], x.behind(0, w[0]), w[1]);
        int[][] wants = {{7, 0}, {30, 0}, {36, 0}, {37, 10}, {66, 10}, {67, 20}, {127, 40}, {130, 40}};
        for (int[] w : wants) Due.is("of day 7, day " + w[0], x.behind(2, w[0]), w[1]);
    }

    // dues of THE RULE of the last of these DAYS
    static void p25_ruleOfTheLastOfTheseDays() {
        OneWire x = farms();
        Due.rule(x, "dues 3", 29);
        Due.rule(x, "dues 4", 30);
        Due.rule(x, "dues 5", 59);
        Due.rule(x, "dues 6", 60);
        Due.rule(x, "dues 7", 88);
        to(x, 100, 0);
        Due.is("day 30, by day 29", x.behind(0, 30), 3);
        Due.is("day 60, by day 59", x.behind(0, 60), 8);
        Due.is("day 90, by day 89", x.behind(0, 90), 15);
    }

    // and work, days of work: 3 for each day of work due
    static void p25_workDue() {
        OneWire x = farms();
        Due.rule(x, "dues 0;work 999", 29);
        Due.rule(x, "work 0", 30);
        to(x, 60, 0);
        Due.is("day 29", x.behind(0, 29), 0);
        Due.is("day 30", x.behind(0, 30), 2997);
        Due.is("day 60", x.behind(0, 60), 2997);
    }

    // Without any: dues 10, work 2
    static void p25_withoutAnyRule() {
        OneWire x = new OneWire();
        x.farm(0, 0, 0);
        to(x, 30, 0);
        Due.is("10 and 3 times 2", x.behind(0, 30), 16);
    }

    // less 3 for each done
    static void p25_workDone() {
        OneWire x = farms();
        to(x, 30, 0);
        x.pay(0, 1, 1);
        Due.is("3 less", x.behind(0, 30), 7);
        x.pay(0, 1, 2);
        Due.is("9 less", x.behind(0, 30), 1);
        Due.is("not another's", x.behind(1, 30), 10);
    }

    // all up to that DAY: what is paid on it, too, and not what is paid on the next one
    static void p25_upToThatDay() {
        OneWire x = farms();
        to(x, 29, 99);
        x.pay(0, 0, 1);
        to(x, 30, 0);
        x.pay(0, 0, 2);
        to(x, 31, 0);
        x.pay(0, 0, 4);
        Due.is("day 28", x.behind(0, 28), 0);
        Due.is("day 29", x.behind(0, 29), -1);
        Due.is("day 30", x.behind(0, 30), 7);
        Due.is("day 31", x.behind(0, 31), 3);
    }

    // ---- promise 26

    // NONE
    static void p26_farmTooSmallOrTooLarge() {
        OneWire x = farms();
        for (int farm : new int[] {-1, 2, 12, MIN, MAX}) Due.is("farm " + farm, x.since(farm), NONE);
    }

    // -5: it isn't
    static void p26_itIsNot() {
        OneWire x = farms();
        Due.is("day 0", x.since(0), -5);
        to(x, 29, 99);
        Due.is("day 29, minute 99", x.since(0), -5);
        to(x, 30, 0);
        Due.is("day 30", x.since(0), 30);
    }

    // above 0: not at 0, nor below it
    static void p26_notAt0() {
        OneWire x = farms();
        to(x, 30, 0);
        x.pay(0, 0, 9);
        Due.is("1", x.since(0), 30);
        x.pay(0, 0, 1);
        Due.is("0", x.since(0), -5);
        x.pay(0, 0, 1);
        Due.is("-1", x.since(0), -5);
    }

    // the first DAY from which on it has been above 0 on each DAY
    static void p26_onEachDay() {
        OneWire x = farms();
        to(x, 45, 0);
        x.pay(0, 0, 10);
        x.pay(1, 0, 9);
        to(x, 95, 0);
        Due.is("at 0 from day 45 to 59", x.since(0), 60);
        Due.is("at 1 from day 45 to 59", x.since(1), 30);
        x.pay(0, 0, 20);
        Due.is("now at 0", x.since(0), -5);
        to(x, 120, 0);
        Due.is("again", x.since(0), 120);
    }

    // up to that of NOW, on each DAY: as it is with all of a DAY, not between
    static void p26_paidOnTheDayItIsDue() {
        OneWire x = farms();
        to(x, 30, 0);
        x.pay(0, 0, 10);
        to(x, 60, 0);
        x.pay(0, 0, 5);
        to(x, 90, 50);
        Due.is("5 of day 60", x.since(0), 60);
        x.pay(0, 0, 14);
        Due.is("1 of day 90", x.since(0), 60);
    }

    // paid ahead
    static void p26_paidAhead() {
        OneWire x = farms();
        x.pay(0, 0, 15);
        to(x, 30, 0);
        Due.is("-5", x.since(0), -5);
        to(x, 60, 0);
        Due.is("5", x.since(0), 60);
        to(x, 59 + 31, 0);
        Due.is("15", x.since(0), 60);
    }

    // a FARM that came on another DAY, and that of the last one
    static void p26_whenItCame() {
        OneWire x = farms();
        to(x, 370, 99);
        x.farm(1, 0, 0);
        to(x, 371, 0);
        x.farm(1, 0, 0);
        to(x, 399, 99);
        Due.is("29 days", x.since(2), -5);
        to(x, 400, 0);
        Due.is("30 days", x.since(2), 400);
        Due.is("29 days", x.since(3), -5);
        Due.is("since day 30", x.since(0), 30);
    }

    // THE RULE of a DAY told since
    static void p26_byRulesToldSince() {
        OneWire x = farms();
        to(x, 70, 0);
        Due.is("since day 30", x.since(0), 30);
        Due.rule(x, "dues 0", 29);
        Due.rule(x, "dues 1", 59);
        Due.is("nothing was due on day 30", x.since(0), 60);
        Due.rule(x, "dues 0", 59);
        Due.is("nor on day 60", x.since(0), -5);
    }

    // ---- promise 27

    /** Farm 0 calls out for so many minutes, one call after another. */
    private static OneWire called(int... minutes) {
        OneWire x = farms();
        Due.rule(x, "long 20", 0);
        for (int k : minutes) {
            x.call(3, 0, k);
            x.minute(k + 1);
        }
        return x;
    }

    // NONE
    static void p27_farmTooSmallOrTooLarge() {
        OneWire x = called(1);
        for (int farm : new int[] {-1, 2, 12, MIN, MAX}) Due.is("farm " + farm, x.town(farm, 0, 400), NONE);
    }

    // BAD: days (0 .. 400 ..)
    static void p27_dayTooSmall() {
        OneWire x = called(1);
        for (int day : new int[] {-1, MIN}) {
            Due.is("from " + day, x.town(0, day, 400), BAD);
            Due.is("to " + day, x.town(0, 0, day), BAD);
            Due.is("both " + day, x.town(0, day, day), BAD);
        }
    }

    static void p27_dayTooLarge() {
        OneWire x = called(1);
        for (int day : new int[] {401, MAX}) {
            Due.is("from " + day, x.town(0, day, 400), BAD);
            Due.is("to " + day, x.town(0, 0, day), BAD);
            Due.is("both " + day, x.town(0, day, day), BAD);
        }
        Due.is("0 to 400", x.town(0, 0, 400), 4);
        Due.is("400 to 400", x.town(0, 400, 400), 0);
    }

    // (.. the first not behind the last)
    static void p27_theFirstBehindTheLast() {
        OneWire x = called(1);
        Due.is("1 to 0", x.town(0, 1, 0), BAD);
        Due.is("400 to 0", x.town(0, 400, 0), BAD);
        Due.is("400 to 399", x.town(0, 400, 399), BAD);
        Due.is("0 to 0", x.town(0, 0, 0), 4);
        Due.is("1 to 1", x.town(0, 1, 1), 0);
    }

    static void p27_noneAheadOfBad() {
        OneWire x = called(1);
        Due.is("farm and days", x.town(2, -1, 0), NONE);
        Due.is("farm and days", x.town(-1, 1, 0), NONE);
    }

    // asked within DAYS: the first and the last are, too
    static void p27_withinDays() {
        OneWire x = farms();
        to(x, 4, 99);
        x.call(3, 0, 1);
        to(x, 5, 0);
        x.call(3, 0, 2);
        to(x, 5, 99);
        x.call(3, 0, 3);
        to(x, 6, 0);
        x.call(3, 0, 4);
        to(x, 7, 0);
        int[][] want = {{0, 3, 0}, {4, 4, 4}, {5, 5, 20}, {6, 6, 16}, {4, 5, 24}, {5, 6, 36}, {7, 400, 0}, {0, 400, 40}};
        for (int[] w : want) Due.is(w[0] + " to " + w[1], x.town(0, w[0], w[1]), w[2]);
    }

    // asked, not ON, within DAYS
    static void p27_askedNotOn() {
        OneWire x = farms();
        to(x, 0, 99);
        x.call(4, 0, 3);
        x.call(3, 0, 2);
        to(x, 2, 0);
        Due.is("it was on day 1", x.of(1, 5), 3);
        Due.is("asked on day 0", x.town(0, 0, 0), 8);
        Due.is("not on day 1", x.town(0, 1, 2), 0);
    }

    // OUT CALLS that were ON or ENDED
    static void p27_onOrEnded() {
        OneWire x = farms();
        x.call(3, 0, 5);
        Due.is("it waits", x.town(0, 0, 400), 0);
        x.minute(1);
        Due.is("it is on", x.town(0, 0, 400), 20);
        x.minute(5);
        Due.is("it has ended", x.town(0, 0, 400), 20);
        x.down(0, 0, true);
        x.call(3, 0, 5);
        x.minute(1);
        Due.is("it is lost", x.town(0, 0, 400), 20);
    }

    // OUT CALLS: no others
    static void p27_noOthers() {
        OneWire x = farms();
        x.farm(0, 5, 0);
        x.ring(0, 2, 1);
        x.ring(0, 1, 1);
        x.call(4, 0, 1);
        x.minute(10);
        Due.is("all have ended", x.count(4) + x.count(5) + x.count(6), 0);
        Due.is("none to the town", x.town(0, 0, 400), 0);
    }

    // of a FARM
    static void p27_ofAFarm() {
        OneWire x = called(3);
        x.call(3, 1, 2);
        x.minute(1);
        Due.is("its own", x.town(0, 0, 400), 12);
        Due.is("another's", x.town(1, 0, 400), 8);
        Due.is("none", farms().town(1, 0, 400), 0);
    }

    // minutes (as they were asked) at 4 coins each for the first 10 in all, 3 for the next 10, 2 for more
    static void p27_rates() {
        Due.is("1", called(1).town(0, 0, 400), 4);
        Due.is("9", called(9).town(0, 0, 400), 36);
        Due.is("10", called(10).town(0, 0, 400), 40);
        Due.is("11", called(11).town(0, 0, 400), 43);
        Due.is("19", called(19).town(0, 0, 400), 67);
        Due.is("20", called(20).town(0, 0, 400), 70);
        Due.is("21", called(20, 1).town(0, 0, 400), 72);
        Due.is("40", called(20, 20).town(0, 0, 400), 110);
    }

    // in all: not for each CALL
    static void p27_inAll() {
        Due.is("6 and 4", called(6, 4).town(0, 0, 400), 40);
        Due.is("6 and 5", called(6, 5).town(0, 0, 400), 43);
        Due.is("10 and 10", called(10, 10).town(0, 0, 400), 70);
        Due.is("10, 10 and 1", called(10, 10, 1).town(0, 0, 400), 72);
    }

    // in all: of those within DAYS
    static void p27_inAllWithinDays() {
        OneWire x = called(10);
        to(x, 1, 0);
        x.call(3, 0, 10);
        to(x, 2, 0);
        Due.is("day 0", x.town(0, 0, 0), 40);
        Due.is("day 1", x.town(0, 1, 1), 40);
        Due.is("both", x.town(0, 0, 1), 70);
    }

    // as many as there can be
    static void p27_most() {
        OneWire x = farms();
        Due.rule(x, "long 20", 0);
        for (int k = 0; k < 60; k++) {
            x.call(3, 0, 20);
            x.minute(20);
        }
        Due.is("1200", x.town(0, 0, 400), 40 + 30 + 2 * 1180);
    }

    public static void main(String[] args) {
        Edges.run(EdgesDuesTest.class, 24, 27);
    }
}
