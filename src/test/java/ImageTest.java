/** Promises 34 to 36: the image and what is counted. */
public final class ImageTest {
    private static final int NONE = OneWire.NONE, STATE = OneWire.STATE;

    private static OneWire full() {
        OneWire x = new OneWire();
        for (int k = 0; k < 6; k++) x.farm(k % 3, k, k);
        x.code(0, 2, 1);
        x.code(3, 3, 1);
        Due.rule(x, "first 40 k=1&f=0;tell k=1;long 9;near 70", 0);
        Due.feed(x, "dues 1");
        x.ring(0, 3, 2);
        x.ring(1, 5, 3);
        x.call(3, 4, 1);
        x.down(2, 1, true);
        x.told(0, 12, false);
        x.maybe(0, 0);
        x.pay(2, 0, 4);
        x.quarrel(0, 1);
        x.vote(63, 4, -1);
        x.vote(63, 4, 0);
        x.minute(1);
        x.farm(0, 9, 9);
        x.listen(6, 0);
        return x;
    }

    /** What is seen of all that there is, in one number. */
    private static long seen(OneWire x) {
        long h = 7;
        for (int k = 0; k < 9; k++) h = 31 * h + x.count(k);
        for (int k = 0; k < 12; k++) {
            for (int j = 0; j < 12; j++) h = 31 * h + x.like(k, j);
            for (int j = 0; j <= 12; j++) h = 31 * h + x.reach(k, j);
            h = 31 * h + x.behind(k, x.count(3) / 100) + 7 * x.since(k) + 11 * x.town(k, 0, 400);
        }
        for (int call = 0; call < 60; call++) {
            for (int what = 0; what < 8; what++) h = 31 * h + x.of(call, what);
            h = 31 * h + x.heard(call) + 7 * x.as(call, 0);
            for (int word = 0; word < 7; word++) h = 31 * h + x.force(word, call, 400) + 7 * x.why(word, call, 0);
        }
        for (int line = 0; line < 4; line++) h = 31 * h + x.mistakes(line) + 7 * x.board(line, 0) + 11 * x.board(line, 1);
        for (int n = 1; n < 8; n++) for (int i = -1; i < n; i++) h = 31 * h + x.divide(n, 3, i);
        return 31 * (31 * (31 * h + x.storm(0)) + x.storm(1)) + x.counting();
    }

    private static void change(OneWire x) {
        x.farm(0, 0, 0);
        x.code(0, 4, 4);
        x.code(3, 0, 0);
        Due.feed(x, ";dues 2");
        x.text(0);
        Due.rule(x, "first 1 l=0;cords 0;near 100;tell !k=1", 0);
        Due.feed(x, "work 1");
        x.listen(3, 1);
        x.listen(7, 0);
        x.ring(5, 1, 1);
        x.minute(3);
        x.ring(2, 4, 1);
        x.minute(200);
        for (int wire = 0; wire < 10; wire++) x.down(wire % 4, wire, wire % 2 == 0);
        x.told(1, 2, true);
        x.told(4, 12, false);
        x.maybe(1, 1);
        x.maybe(1, 2);
        x.pay(2, 1, 3);
        x.pay(0, 0, 3);
        x.pay(2, 0, 90);
        x.quarrel(2, 3);
        x.vote(7, 2, 1);
        x.nought(0);
    }

    private static void images() {
        OneWire x = full();
        Due.is("35: none yet", x.undo(), STATE);
        long was = seen(x);
        Due.is("34: now", x.image(), 1);
        Due.is("34: nothing changes", seen(x), was);
        change(x);
        Due.is("35: it has changed", seen(x) == was ? 1 : 0, 0);
        Due.is("35: now", x.undo(), 1);
        Due.is("35: all is as it was", seen(x), was);
        Due.is("35: the tape, too", x.count(7), 6);
        Due.is("35: its bytes", x.text(0), 1);
        Due.is("35: its bytes", x.force(1, 0, 0), 1);
        change(x);
        Due.is("35: once more", x.undo(), 1);
        Due.is("35: once more", seen(x), was);
        Due.is("35: wires as they were", x.down(2, 1, true), 1);
        Due.is("35: wires as they were", x.down(2, 4, true), 0);
        Due.is("35: maybes as they were", x.maybe(1, 1), 2);
        Due.is("35: told as it was", x.told(1, 2, true), 2);
        Due.is("35: quarrels as they were", x.quarrel(2, 3), 1);
        Due.is("35: quarrels as they were", x.quarrel(1, 0), 0);
        Due.is("35: paid as it was", x.pay(2, 0, 1), 5);
        Due.is("35: meetings as they were", x.nought(0), 1);
        Due.is("35: listeners as they were", x.listen(6, 0), STATE);
        Due.is("35: code as it was", x.code(0, 0, 0), 33);
        Due.is("35: code as it was", x.code(3, 0, 0), 49);
        // what comes behind an undo has nothing of what was undone
        x.undo();
        change(x);
        x.undo();
        Due.is("35: a farm in place of one that is gone", x.farm(3, 1, 1), 7);
        Due.is("35: it has no code", x.code(7, 1, 1), 0);
        Due.is("35: nor quarrels", x.quarrel(7, 3), 1);
        Due.is("35: a call in place of one that is gone", x.ring(7, 3, 1), 3);
        Due.is("35: nobody took it up", x.of(3, 6), 100 - 4 * 6 + 3);
        Due.is("35: it was not on", x.of(3, 5), 0);
        Due.is("34: another image", x.image(), 1);
        was = seen(x);
        x.minute(50);
        Due.is("35: as the other one", x.undo(), 1);
        Due.is("35: as the other one", seen(x), was);
        Due.is("34: later", x.minute(9) == x.image() ? 1 : 0, 1);
        x.minute(9);
        Due.is("35: later", x.undo(), 10);
    }

    /** What is full is not full any more. */
    private static void room() {
        OneWire x = new OneWire();
        x.farm(0, 0, 0);
        x.farm(0, 0, 0);
        x.image();
        for (int time = 0; time < 3; time++) {
            for (int k = 0; k < 60; k++) {
                x.pay(0, 0, 1);
                x.ring(0, 1, 1);
                Due.rule(x, "tell k=1", 0);
                x.told(0, 12, k % 3 == time);
                x.maybe(k / 10 % 4, k % 10);
                x.vote(3, 2, -1);
                x.nought(time);
                x.farm(1, 1, 1);
                x.code(k % 12, 1, 1);
                x.quarrel(k % 12, time);
            }
            Due.is("35: full", x.pay(0, 0, 1) + x.ring(0, 1, 1) + x.text(0) + x.told(0, 12, true) + x.maybe(3, 9)
                + x.vote(3, 2, -1) + x.farm(0, 0, 0), 7 * OneWire.FULL);
            Due.is("35: half came to three, one of them is nought", x.counting(), 7 & ~(1 << time));
            x.farm(0, 0, 0);
            x.undo();
            Due.is("35: farms", x.count(0), 2);
            Due.is("35: payments", x.pay(0, 0, 1), 1);
            Due.is("35: calls", x.ring(0, 1, 1), 0);
            Due.is("35: rules", Due.rule(x, "tell k=1", 0), 0);
            Due.is("35: told", x.told(0, 12, true), 1);
            Due.is("35: maybes", x.maybe(3, 9), 1);
            Due.is("35: all explained", x.storm(0), 0);
            Due.is("35: meetings", x.vote(3, 2, -1), 0);
            Due.is("35: not nought any more", x.counting(), 1);
            for (int k = 1; k < 7; k++) x.vote(3, 2, -1);
            Due.is("35: none is nought", x.counting(), 127);
            Due.is("35: farms", x.farm(0, 0, 0), 2);
            Due.is("35: no code", x.code(2, 0, 0), 0);
            Due.is("35: no quarrel", x.quarrel(2, 0), 1);
            x.undo();
        }
    }

    /** Two objects know nothing of each other. */
    private static void apart() {
        OneWire x = full(), y = full();
        long was = seen(y);
        x.image();
        Due.is("34: the other has none", y.undo(), STATE);
        change(x);
        Due.is("35: the other is as it was", seen(y), was);
        OneWire z = new OneWire();
        z.image();
        z.farm(0, 0, 0);
        Due.is("35: of nothing", z.undo(), 0);
        Due.is("35: of nothing", z.count(0), 0);
    }

    private static void counts() {
        OneWire x = full();
        int[] want = {7, 1, 3, 1, 0, 2, 1, 6, 2};
        for (int what = 0; what < 9; what++) Due.is("36: " + what, x.count(what), want[what]);
        x.ring(0, 3, 1);
        Due.is("36: one waits", x.count(4), 1);
        for (int what : new int[] {-1, 9, Integer.MIN_VALUE, Integer.MAX_VALUE}) Due.is("36: what " + what, x.count(what), NONE);
    }

    public static void main(String[] args) {
        images();
        room();
        apart();
        counts();
        Due.end();
    }
}
