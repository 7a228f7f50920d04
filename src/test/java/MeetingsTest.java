/** Promises 28 to 33: quarrels, farms parted, meetings, a rule that is tried. */
public final class MeetingsTest {
    private static final int NONE = OneWire.NONE, BAD = OneWire.BAD, FULL = OneWire.FULL;
    private static final int[] WILD = {-1, 12, Integer.MIN_VALUE, Integer.MAX_VALUE};

    private static OneWire farms(int n) {
        OneWire x = new OneWire();
        for (int k = 0; k < n; k++) x.farm(k % 2, k % 10, 0);
        return x;
    }

    private static void quarrels() {
        OneWire x = farms(12);
        for (int wild : WILD) {
            Due.is("28: a " + wild, x.quarrel(wild, 0), NONE);
            Due.is("28: b " + wild, x.quarrel(0, wild), NONE);
            Due.is("28: both " + wild, x.quarrel(wild, wild), NONE);
        }
        for (int a = 0; a < 12; a++) {
            Due.is("28: one farm", x.quarrel(a, a), BAD);
            for (int b = 0; b < a; b++) {
                Due.is("28: new", x.quarrel(a, b), 1);
                Due.is("28: old", x.quarrel(a, b), 0);
                Due.is("28: old, turned", x.quarrel(b, a), 0);
            }
        }
    }

    private static void row(OneWire x, int n, int m, int... want) {
        for (int i = -1; i < n; i++) Due.is("29: divide(" + n + ", " + m + ", " + i + ")", x.divide(n, m, i), want[i + 1]);
        Due.is("29: divide(" + n + ", " + m + "), beyond", x.divide(n, m, n), NONE);
    }

    private static void parted() {
        OneWire x = farms(8);
        row(x, 1, 1, 0, 0);
        row(x, 2, 1, 1, 0, 0);
        row(x, 2, 2, 0, 0, 1);
        row(x, 4, 2, 2, 0, 0, 1, 1);
        row(x, 4, 3, 1, 0, 0, 1, 2);
        row(x, 7, 3, 5, 0, 0, 0, 1, 1, 2, 2);
        x.ring(0, 2, 1);
        row(x, 3, 3, 1, 0, 1, 0);
        x.ring(2, 0, 1);
        row(x, 3, 3, 1, 0, 1, 0);
        // throughs count, calls out and to all don't
        x.ring(0, 1, 1);
        x.ring(1, 0, 1);
        x.call(3, 0, 1);
        x.call(4, 0, 1);
        row(x, 2, 2, 1, 0, 0);
        row(x, 3, 2, 3, 0, 0, 0);
        row(x, 3, 3, 3, 0, 0, 0);
        x.quarrel(0, 1);
        row(x, 2, 2, 2, 0, 1);
        Due.is("29: not on one line", x.divide(2, 1, -1), -5);
        Due.is("29: not on one line", x.divide(2, 1, 1), -5);
        x.quarrel(1, 2);
        x.quarrel(0, 2);
        Due.is("29: not on two lines", x.divide(3, 2, -1), -5);
        row(x, 3, 3, 4, 0, 1, 2);
        x.quarrel(3, 0);
        x.quarrel(3, 1);
        x.quarrel(3, 2);
        Due.is("29: not on three", x.divide(4, 3, 0), -5);
        Due.is("29: three of them are", x.divide(3, 3, -1), 4);
        for (int wild : WILD) {
            Due.is("29: n " + wild, x.divide(wild, 2, -1), BAD);
            Due.is("29: m " + wild, x.divide(2, wild, -1), BAD);
        }
        Due.is("29: n 0", x.divide(0, 2, -1), BAD);
        Due.is("29: n 8", x.divide(8, 2, -1), BAD);
        Due.is("29: m 0", x.divide(2, 0, 0), BAD);
        Due.is("29: m 4", x.divide(2, 4, 0), BAD);
        Due.is("29: i -2", x.divide(2, 2, -2), NONE);
        Due.is("29: i ahead of m", x.divide(2, 4, 2), NONE);
        Due.is("29: i MAX", x.divide(2, 2, Integer.MAX_VALUE), NONE);
        Due.is("29: i MIN", x.divide(2, 2, Integer.MIN_VALUE), NONE);
        Due.is("29: no farms", new OneWire().divide(1, 1, 0), BAD);
        OneWire y = farms(2);
        Due.is("29: more than farms", y.divide(3, 1, 2), BAD);
        // the state of a call does not matter
        y.ring(0, 1, 1);
        y.ring(0, 1, 1);
        y.minute(100);
        row(y, 2, 2, 1, 0, 0);
    }

    private static void votes() {
        OneWire x = farms(5);
        Due.is("30: on 0", x.vote(0, 0, 0), NONE);
        Due.is("30: on -2", x.vote(31, 9, -2), NONE);
        Due.is("30: came -1", x.vote(-1, 0, -1), BAD);
        Due.is("30: came of a sixth farm", x.vote(32, 0, -1), BAD);
        Due.is("30: came MIN", x.vote(Integer.MIN_VALUE, 0, -1), BAD);
        Due.is("30: came MAX", x.vote(Integer.MAX_VALUE, 0, -1), BAD);
        Due.is("30: for it -1", x.vote(31, -1, -1), BAD);
        Due.is("30: more for it than came", x.vote(21, 4, -1), BAD);
        Due.is("30: three of five", x.vote(21, 2, -1), 0);
        Due.is("30: on itself", x.vote(21, 2, 1), NONE);
        Due.is("30: two of five", x.vote(3, 2, -1), 1);
        Due.is("30: half of four", x.vote(15, 2, -1), 2);
        Due.is("30: on one that counts", x.vote(31, 5, 0), 3);
        Due.is("30: on one that doesn't", x.vote(31, 5, 1), 4);
        Due.is("30: on one that hangs so", x.vote(31, 3, 4), 5);
        Due.is("30: on one that counts so", x.vote(7, 3, 3), 6);
        Due.is("30: nobody", x.vote(0, 0, -1), 7);
        Due.is("30: all against", x.vote(31, 0, -1), 8);
        Due.is("32: 0, 3 and 6", x.counting(), 1 | 8 | 64);
        x.farm(3, 0, 0);
        x.farm(3, 0, 0);
        Due.is("32: as many farms as there were then", x.counting(), 1 | 8 | 64);
        Due.is("30: three of seven", x.vote(7, 3, -1), 9);
        Due.is("32: not half", x.counting(), 1 | 8 | 64);
        Due.is("30: an 11th", x.vote(31, 3, -1), FULL);
        Due.is("30: came first", x.vote(128, 0, -1), BAD);
        Due.is("30: on first", x.vote(128, 0, 10), NONE);
        Due.is("36: meetings", x.count(8), 10);
        for (int wild : WILD) Due.is("31: " + wild, x.nought(wild), NONE);
        Due.is("31: 10", x.nought(10), NONE);
        Due.is("31: 6", x.nought(6), 1);
        Due.is("31: it was", x.nought(6), 0);
        Due.is("32: 6 is nought", x.counting(), 1 | 8);
        Due.is("31: 0", x.nought(0), 1);
        Due.is("32: and all that hangs on it", x.counting(), 0);
    }

    private static void halves() {
        OneWire x = farms(12);
        Due.is("30: half of twelve", x.vote(63, 4, -1), 0);
        Due.is("30: five of twelve", x.vote(31, 5, -1), 1);
        Due.is("30: all", x.vote(4095, 7, -1), 2);
        Due.is("30: half for it", x.vote(4095, 6, -1), 3);
        Due.is("32: 0 and 2", x.counting(), 5);
        OneWire y = new OneWire();
        Due.is("30: nobody there", y.vote(0, 0, -1), 0);
        Due.is("30: nobody there", y.vote(1, 0, -1), BAD);
        Due.is("32: nobody was for it", y.counting(), 0);
        OneWire z = farms(1);
        Due.is("30: the only one", z.vote(1, 1, -1), 0);
        Due.is("32: the only one", z.counting(), 1);
        OneWire w = farms(5);
        w.vote(7, 2, -1);
        w.vote(3, 2, 0);
        Due.is("32: half of five are three", w.counting(), 1);
    }

    private static int tried(OneWire x, String text, int what, int call) {
        Due.feed(x, text);
        return x.tried(what, call);
    }

    private static void tries() {
        OneWire x = farms(4);
        x.ring(0, 2, 1); // 0: a ring
        x.ring(0, 1, 1); // 1: a through
        x.call(3, 1, 1); // 2
        x.call(4, 1, 1); // 3
        Due.feed(x, "first 7 k=1;tell k=4");
        for (int wild : WILD) {
            Due.is("33: what " + wild, x.tried(wild, 0), NONE);
            Due.is("33: call " + wild, x.tried(0, wild), NONE);
        }
        Due.is("33: what 2", x.tried(2, 0), NONE);
        Due.is("33: call 4", x.tried(0, 4), NONE);
        Due.is("33: the tape stays", x.count(7), 20);
        Due.is("33: a ring", x.tried(0, 0), 7);
        Due.is("33: the tape is empty", x.count(7), 0);
        Due.is("33: no rule", x.count(1), 0);
        Due.is("33: nothing stays", x.of(0, 2), 50);
        Due.is("33: an all", tried(x, "first 7 k=4", 0, 3), -13);
        Due.is("33: an out", tried(x, "first 7 k=3", 0, 2), 12);
        Due.is("33: none holds", tried(x, "first 7 k=2", 0, 2), 55);
        Due.is("33: told", tried(x, "tell k=4|k=2", 1, 99), 2);
        Due.is("33: told, none", tried(x, "dues 3", 1, -1), 0);
        Due.is("33: fault", tried(x, "tell k=4|", 1, 0), -19);
        Due.is("33: fault", tried(x, "tell k=x", 0, 0), -17);
        Due.is("33: the tape is empty", x.count(7), 0);
        Due.is("33: an empty one", x.tried(1, 0), -10);
        // on the day of now, not on that on which it was asked
        Due.rule(x, "first 1 k=1;tell l=0", 0);
        Due.rule(x, "first 2 k=1;first 5 k=2;tell l=1", 3);
        Due.rule(x, "first 3 k=1;tell k=1", 1);
        Due.rule(x, "first 4 k=1;tell k=9", 2);
        Due.is("33: day 0", tried(x, "dues 1", 0, 0), 1);
        Due.is("33: the tried one is the last", tried(x, "first 9 k=1", 0, 0), 9);
        Due.is("33: day 0, told", tried(x, "dues 1", 1, 0), 2);
        Due.pass(x, 100);
        Due.is("33: day 1", tried(x, "dues 1", 0, 0), 3);
        Due.is("13: still", x.of(0, 2), 1);
        Due.is("33: day 1, told", tried(x, "dues 1", 1, 0), 1);
        Due.is("33: day 1, tried", tried(x, "tell f=1;first 8 f=1", 1, 0), 2);
        Due.pass(x, 200);
        Due.is("33: day 3", tried(x, "dues 1", 0, 0), 2);
        Due.is("33: day 3, through", tried(x, "first 1 k=1", 0, 1), 5);
        Due.is("33: day 3, told", tried(x, "dues 1", 1, 0), 2);
        // also with 10 rules
        for (int k = 4; k < 10; k++) Due.rule(x, "dues " + k, 400);
        Due.is("33: ten", x.count(1), 10);
        Due.is("33: an 11th", tried(x, "first 6 k=1&h<1", 0, 0), 6);
        Due.is("33: an 11th, told", tried(x, "tell !k=1", 1, 0), 3);
        Due.is("33: an 11th of 8 clauses", tried(x, "near 1;near 1;near 1;near 1;near 1;near 1;near 1;tell h<1", 1, 0), 4);
        Due.is("33: an 11th, fault", tried(x, "tell !!k=1 ", 1, 0), -20);
        Due.is("33: still ten", x.count(1), 10);
        Due.is("33: none of them stays", x.force(6, 0, 400), 40);
    }

    public static void main(String[] args) {
        quarrels();
        parted();
        votes();
        halves();
        tries();
        Due.end();
    }
}
