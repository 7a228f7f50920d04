/** Promises 1 to 6: a new object, farms, codes. */
public final class FarmsTest {
    private static final int MIN = Integer.MIN_VALUE, MAX = Integer.MAX_VALUE;

    private static void newObject() {
        OneWire x = new OneWire();
        for (int what = 0; what <= 8; what++) Due.is("1: count(" + what + ")", x.count(what), 0);
        Due.is("1: counting", x.counting(), 0);
        Due.is("1: undo", x.undo(), OneWire.STATE);
        Due.is("1: no farm 0", x.heard(0), OneWire.NONE);
        Due.is("1: reach", x.reach(0, 12), OneWire.NONE);
        Due.is("1: mistakes", x.mistakes(0), 0);
        Due.is("1: best of nobody", x.best(3, 1, -1), 0);
        Due.is("1: best 0 of nobody", x.best(3, 1, 0), OneWire.NONE);
        Due.is("1: NONE", OneWire.NONE, -1);
        Due.is("1: BAD", OneWire.BAD, -2);
        Due.is("1: STATE", OneWire.STATE, -3);
        Due.is("1: FULL", OneWire.FULL, -4);
    }

    private static void farms() {
        OneWire x = new OneWire();
        Due.is("2: line -1", x.farm(-1, 0, 0), OneWire.NONE);
        Due.is("2: line 4", x.farm(4, 0, 10), OneWire.NONE);
        Due.is("2: post -1", x.farm(0, -1, 0), OneWire.NONE);
        Due.is("2: post 10", x.farm(0, 10, -1), OneWire.NONE);
        Due.is("2: ears -1", x.farm(0, 0, -1), OneWire.BAD);
        Due.is("2: ears 10", x.farm(3, 9, 10), OneWire.BAD);
        for (int k = 0; k < 12; k++) Due.is("2: farm " + k, x.farm(k % 4, k % 10, k % 10), k);
        Due.is("2: a 13th", x.farm(0, 0, 0), OneWire.FULL);
        Due.is("2: a 13th of bad ears", x.farm(0, 0, 10), OneWire.BAD);
        Due.is("2: a 13th on no line", x.farm(4, 0, 10), OneWire.NONE);
        Due.is("2: count", x.count(0), 12);
    }

    private static void codes() {
        OneWire x = new OneWire();
        x.farm(0, 0, 0);
        Due.is("3: no farm", x.code(1, 9, 9), OneWire.NONE);
        Due.is("3: farm -1", x.code(-1, 1, 0), OneWire.NONE);
        Due.is("3: farm MIN", x.code(MIN, 1, 0), OneWire.NONE);
        Due.is("3: signs -1", x.code(0, -1, 0), OneWire.BAD);
        Due.is("3: signs 5", x.code(0, 5, 0), OneWire.BAD);
        Due.is("3: signs MAX", x.code(0, MAX, 0), OneWire.BAD);
        Due.is("3: bits -1", x.code(0, 2, -1), OneWire.BAD);
        Due.is("3: bits 4 of 2 signs", x.code(0, 2, 4), OneWire.BAD);
        Due.is("3: bits 1 of none", x.code(0, 0, 1), OneWire.BAD);
        Due.is("3: first code", x.code(0, 4, 15), 0);
        Due.is("3: then 2 signs", x.code(0, 2, 3), 79);
        Due.is("3: then none", x.code(0, 0, 0), 35);
        Due.is("3: then 1 sign", x.code(0, 1, 0), 0);
        Due.is("3: then 1 sign", x.code(0, 1, 1), 16);
        Due.is("3: and again", x.code(0, 1, 1), 17);
    }

    /** The mistakes of two codes, either way. */
    private static void pair(int signs, int bits, int others, int otherBits, int want) {
        OneWire x = new OneWire();
        x.farm(0, 0, 0);
        x.farm(1, 0, 0);
        x.code(0, signs, bits);
        x.code(1, others, otherBits);
        String what = "4: " + signs + "/" + bits + " and " + others + "/" + otherBits;
        Due.is(what, x.like(0, 1), want);
        Due.is(what + " turned", x.like(1, 0), want);
    }

    private static void likes() {
        pair(0, 0, 0, 0, 0);
        pair(0, 0, 1, 0, 0);
        pair(1, 0, 1, 0, 9);
        pair(1, 0, 1, 1, 2);
        pair(4, 10, 4, 10, 9);
        pair(4, 10, 4, 2, 2);
        pair(4, 0, 4, 3, 1);
        pair(4, 0, 4, 7, 0);
        pair(4, 0, 4, 15, 0);
        pair(2, 1, 1, 0, 2);
        pair(2, 1, 1, 1, 2);
        pair(2, 3, 1, 0, 0);
        pair(3, 5, 2, 1, 2); // long short long, less its last sign
        pair(3, 5, 2, 2, 2); // less its first
        pair(3, 5, 2, 3, 2); // less its middle one
        pair(3, 5, 2, 0, 0);
        pair(4, 6, 3, 2, 2); // short long long short: short long short
        pair(4, 6, 3, 5, 0);
        pair(3, 0, 1, 0, 0);
        pair(4, 0, 2, 0, 0);
        OneWire x = new OneWire();
        x.farm(0, 0, 0);
        x.farm(0, 0, 0);
        Due.is("4: no farm", x.like(0, 2), OneWire.NONE);
        Due.is("4: no farm", x.like(-1, 0), OneWire.NONE);
        Due.is("4: no farm twice", x.like(2, 2), OneWire.NONE);
        Due.is("4: one farm", x.like(1, 1), OneWire.BAD);
    }

    private static void mistakes() {
        OneWire x = new OneWire();
        for (int k = 0; k < 4; k++) x.farm(2, k, 0);
        x.farm(3, 0, 0);
        Due.is("5: no codes", x.mistakes(2), 0);
        x.code(0, 1, 0);
        Due.is("5: one code", x.mistakes(2), 0);
        x.code(1, 1, 0);
        Due.is("5: alike", x.mistakes(2), 9);
        x.code(3, 2, 2);
        Due.is("5: and one that has a sign more", x.mistakes(2), 13);
        x.code(4, 1, 0);
        Due.is("5: other lines don't count", x.mistakes(2), 13);
        Due.is("5: nor does this one there", x.mistakes(3), 0);
        x.code(0, 0, 0);
        Due.is("5: a code less", x.mistakes(2), 2);
        Due.is("5: line 4", x.mistakes(4), OneWire.NONE);
        Due.is("5: line -1", x.mistakes(-1), OneWire.NONE);
    }

    private static void row(OneWire x, int line, int n, int... want) {
        for (int i = -1; i < want.length - 1; i++) Due.is("6: best(" + line + ", " + n + ", " + i + ")", x.best(line, n, i), want[i + 1]);
        Due.is("6: best(" + line + ", " + n + "), beyond", x.best(line, n, want.length - 1), OneWire.NONE);
    }

    private static void best() {
        OneWire x = new OneWire();
        x.farm(1, 0, 0);
        row(x, 1, 1, 0, 16);
        x.farm(1, 0, 0);
        row(x, 1, 1, 2, 16, 17);
        row(x, 1, 2, 0, 16, 35);
        row(x, 1, 3, 0, 16, 35);
        x.farm(1, 0, 0);
        Due.is("6: three farms, two codes", x.best(1, 1, -1), -5);
        Due.is("6: three farms, two codes", x.best(1, 1, 2), -5);
        row(x, 1, 2, 3, 16, 32, 35);
        // short, long long and then of three signs none that lacks both: short short short
        row(x, 1, 3, 0, 16, 35, 48);
        x.code(0, 4, 15);
        row(x, 1, 3, 0, 16, 35, 48);
        x.farm(0, 0, 0);
        x.farm(1, 0, 0);
        x.farm(1, 0, 0);
        x.farm(1, 0, 0);
        Due.is("6: five of six farms", x.best(1, 3, 4) > 0 ? 1 : 0, 1);
        Due.is("6: not the sixth", x.best(1, 3, 5), OneWire.NONE);
        Due.is("6: five farms, two codes", x.best(1, 1, 0), -5);
        Due.is("6: five of six codes", x.best(1, 2, -1) >= 0 ? 1 : 0, 1);
        Due.is("6: line", x.best(4, 1, -1), OneWire.NONE);
        Due.is("6: line ahead of n", x.best(-1, 9, -1), OneWire.NONE);
        Due.is("6: i -2", x.best(1, 3, -2), OneWire.NONE);
        Due.is("6: i ahead of n", x.best(1, 4, 9), OneWire.NONE);
        Due.is("6: n 0", x.best(1, 0, -1), OneWire.BAD);
        Due.is("6: n 4", x.best(1, 4, 0), OneWire.BAD);
        Due.is("6: n MIN", x.best(1, MIN, 0), OneWire.BAD);
        Due.is("6: i MAX", x.best(1, 3, MAX), OneWire.NONE);
    }

    public static void main(String[] args) {
        newObject();
        farms();
        codes();
        likes();
        mistakes();
        best();
        Due.end();
    }
}
