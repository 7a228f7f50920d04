/** Promises 24 to 27: what is paid, due, and what calls to the town cost. */
public final class DuesTest {
    private static final int NONE = OneWire.NONE, BAD = OneWire.BAD, FULL = OneWire.FULL;
    private static final int[] WILD = {-1, 12, Integer.MIN_VALUE, Integer.MAX_VALUE};

    private static OneWire farms() {
        OneWire x = new OneWire();
        x.farm(0, 2, 5);
        x.farm(1, 7, 0);
        return x;
    }

    private static void pays() {
        OneWire x = farms();
        for (int wild : WILD) {
            Due.is("24: farm " + wild, x.pay(wild, 0, 0), NONE);
            Due.is("24: what " + wild, x.pay(0, wild, 0), NONE);
        }
        Due.is("24: farm 2", x.pay(2, 0, 1), NONE);
        Due.is("24: what 2", x.pay(0, 2, 1), NONE);
        for (int n : new int[] {0, -1, 1000, Integer.MIN_VALUE, Integer.MAX_VALUE}) Due.is("24: n " + n, x.pay(0, 1, n), BAD);
        Due.is("24: coins", x.pay(0, 0, 999), 999);
        Due.is("24: more coins", x.pay(0, 0, 1), 1000);
        Due.is("24: work", x.pay(0, 1, 5), 5);
        Due.is("24: another's work", x.pay(1, 1, 7), 7);
        Due.is("24: more work", x.pay(0, 1, 2), 7);
        for (int k = 5; k < 60; k++) Due.is("24: up to 60", x.pay(1, 0, 2), 2 * (k - 4));
        Due.is("24: a 61st", x.pay(0, 0, 1), FULL);
        Due.is("24: n first", x.pay(0, 0, 0), BAD);
    }

    private static void behinds() {
        OneWire x = farms();
        Due.pass(x, 550);
        x.farm(2, 0, 0);
        Due.is("25: farm 3", x.behind(3, 0), NONE);
        for (int wild : WILD) Due.is("25: farm " + wild, x.behind(wild, -1), NONE);
        Due.is("25: day -1", x.behind(0, -1), BAD);
        Due.is("25: tomorrow", x.behind(0, 6), BAD);
        Due.is("25: day MAX", x.behind(0, Integer.MAX_VALUE), BAD);
        Due.is("25: today", x.behind(0, 5), 0);
        Due.pass(x, 10000 - 550);
        Due.is("25: day 29", x.behind(0, 29), 0);
        Due.is("25: day 30", x.behind(0, 30), 16);
        Due.is("25: day 59", x.behind(0, 59), 16);
        Due.is("25: day 60", x.behind(0, 60), 32);
        Due.is("25: day 100", x.behind(0, 100), 48);
        Due.is("25: who came on day 5, day 34", x.behind(2, 34), 0);
        Due.is("25: day 35", x.behind(2, 35), 16);
        Due.is("25: ahead of when it came", x.behind(2, 4), 0);
        Due.is("25: when it came", x.behind(2, 5), 0);
        // the rule of the last of the 30 days, told since
        Due.rule(x, "dues 100", 30);
        Due.is("25: day 30 is of the next", x.behind(0, 30), 16);
        Due.is("25: day 60", x.behind(0, 60), 16 + 106);
        Due.rule(x, "dues 20;work 0", 29);
        Due.is("25: day 29 was the last one", x.behind(0, 30), 20);
        Due.is("25: and work of it", x.behind(0, 60), 20 + 100);
        Due.is("25: the other's day 34", x.behind(2, 35), 100);
        Due.rule(x, "dues 0;work 100", 30);
        Due.is("25: 3 for a day of work", x.behind(0, 60), 20 + 300);
        // paid on day 100
        x.pay(0, 0, 7);
        x.pay(0, 1, 4);
        x.pay(2, 0, 100);
        Due.is("25: 7 and 3 times 4 less", x.behind(0, 100), 620 - 19);
        Due.is("25: not the day ahead", x.behind(0, 99), 620);
        x.pay(0, 0, 900);
        Due.is("25: below 0", x.behind(0, 100), -299);
        Due.is("25: another's is its own", x.behind(1, 100), 620);
    }

    private static void sinces() {
        OneWire x = farms();
        Due.rule(x, "dues 10;work 0", 0);
        for (int wild : WILD) Due.is("26: farm " + wild, x.since(wild), NONE);
        Due.is("26: farm 2", x.since(2), NONE);
        Due.is("26: day 0", x.since(0), -5);
        Due.pass(x, 2999);
        Due.is("26: day 29", x.since(0), -5);
        Due.pass(x, 1);
        Due.is("26: day 30", x.since(0), 30);
        Due.pass(x, 1000);
        Due.is("26: day 40", x.since(0), 30);
        x.pay(0, 0, 9);
        Due.is("26: not all", x.since(0), 30);
        x.pay(0, 0, 1);
        Due.is("26: all", x.since(0), -5);
        Due.pass(x, 1999);
        Due.is("26: day 59", x.since(0), -5);
        Due.is("26: the other one", x.since(1), 30);
        Due.pass(x, 1);
        Due.is("26: day 60", x.since(0), 60);
        x.pay(0, 1, 4);
        Due.is("26: below 0", x.since(0), -5);
        Due.pass(x, 3000);
        Due.is("26: day 90", x.since(0), 90);
        Due.is("26: day 90, behind", x.behind(0, 90), 8);
        Due.pass(x, 3000);
        Due.is("26: day 120", x.since(0), 90);
        // paid and due on one day: it never was at 0 on a day
        OneWire y = farms();
        Due.rule(y, "dues 10;work 0", 0);
        Due.pass(y, 6000);
        y.pay(0, 0, 10);
        Due.is("26: 10 of 20 paid on day 60", y.behind(0, 60), 10);
        Due.is("26: since day 30", y.since(0), 30);
        // a rule told since changes what was due
        Due.rule(y, "dues 0", 20);
        Due.rule(y, "dues 15", 31);
        Due.is("26: nothing was due on day 30", y.since(0), 60);
        OneWire z = farms();
        Due.rule(z, "dues 1;work 0", 0);
        Due.pass(z, 9000);
        Due.is("26: a coin is enough", z.since(0), 30);
        z.pay(0, 0, 2);
        Due.is("26: a coin is enough", z.since(0), 30);
        // to the last day
        Due.pass(y, 34099);
        Due.is("26: day 400", y.count(3), 40099);
        Due.is("26: day 400", y.since(0), 60);
        Due.is("25: day 400", y.behind(0, 400), 12 * 15 - 10);
    }

    private static void towns() {
        OneWire x = farms();
        x.farm(2, 0, 0);
        Due.rule(x, "long 20;cords 3", 0);
        x.call(3, 0, 7); // lost in day 0
        x.down(0, 0, true);
        x.minute(1);
        x.down(0, 0, false);
        Due.is("27: lost ones cost nothing", x.town(0, 0, 400), 0);
        x.call(3, 0, 6);
        Due.is("27: nor those that wait", x.town(0, 0, 400), 0);
        x.minute(1);
        Due.is("27: on", x.town(0, 0, 400), 24);
        x.minute(6);
        Due.is("27: ended", x.town(0, 0, 0), 24);
        x.ring(0, 1, 5);
        x.call(4, 0, 5);
        x.call(3, 1, 20);
        x.minute(92);
        Due.is("27: rings and alls are not to the town", x.town(0, 0, 400), 24);
        Due.is("27: 20 minutes at once", x.town(1, 0, 400), 70);
        x.call(3, 0, 4);
        x.call(3, 1, 1);
        x.minute(100);
        Due.is("27: 10 minutes in all", x.town(0, 0, 400), 40);
        Due.is("27: 21 minutes", x.town(1, 0, 400), 72);
        Due.is("27: day 0 alone", x.town(0, 0, 0), 24);
        Due.is("27: day 1 alone", x.town(0, 1, 1), 16);
        Due.is("27: from day 2 on", x.town(0, 2, 400), 0);
        x.call(3, 0, 1);
        x.minute(100);
        Due.is("27: 11", x.town(0, 0, 2), 43);
        x.call(3, 0, 20);
        x.minute(1);
        Due.is("27: 31", x.town(0, 0, 3), 40 + 30 + 22);
        Due.is("27: the third farm", x.town(2, 0, 400), 0);
        for (int wild : WILD) Due.is("27: farm " + wild, x.town(wild, -1, 0), NONE);
        Due.is("27: farm 3", x.town(3, 0, 0), NONE);
        Due.is("27: from -1", x.town(0, -1, 5), BAD);
        Due.is("27: to 401", x.town(0, 0, 401), BAD);
        Due.is("27: the first behind the last", x.town(0, 3, 2), BAD);
        Due.is("27: from 401", x.town(0, 401, 401), BAD);
        Due.is("27: to MIN", x.town(0, 0, Integer.MIN_VALUE), BAD);
        Due.is("27: from MIN", x.town(0, Integer.MIN_VALUE, 3), BAD);
        Due.is("27: day 400", x.town(0, 400, 400), 0);
    }

    public static void main(String[] args) {
        pays();
        behinds();
        sinces();
        towns();
        Due.end();
    }
}
