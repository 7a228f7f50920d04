/** Boundary cases of promises 1 to 6: a new object, farms, codes. Each remark is the document's sentence. */
public final class EdgesFarmsTest {
    private static final int NONE = Edges.NONE, BAD = Edges.BAD, STATE = Edges.STATE, FULL = Edges.FULL;
    private static final int MIN = Edges.MIN, MAX = Edges.MAX;

    /** So many farms on a line, at posts from 0 on. */
    private static OneWire line(int line, int farms) {
        OneWire x = new OneWire();
        for (int k = 0; k < farms; k++) x.farm(line, k % 10, 0);
        return x;
    }

    // ---- promise 1

    // No FARMS.
    static void p01_noFarms() {
        OneWire x = new OneWire();
        Due.is("farms", x.count(0), 0);
        Due.is("farm 0", x.code(0, 0, 0), NONE);
        Due.is("the first one", x.farm(0, 0, 0), 0);
    }

    // NOW is 0 at first.
    static void p01_nowIs0AtFirst() {
        Due.is("now", new OneWire().count(3), 0);
    }

    // nothing else is there either
    static void p01_allIsEmpty() {
        OneWire x = new OneWire();
        for (int what = 0; what <= 8; what++) Due.is("count " + what, x.count(what), 0);
        Due.is("no call", x.of(0, 0), NONE);
        Due.is("no meeting", x.nought(0), NONE);
        Due.is("none counts", x.counting(), 0);
        for (int line = 0; line < 4; line++) Due.is("no call has line " + line, x.board(line, 0), NONE);
        Due.is("no cord is used", x.board(0, 1), 0);
        Due.is("no image", x.undo(), STATE);
    }

    // it may be DOWN: none is
    static void p01_noWireIsDown() {
        OneWire x = new OneWire();
        for (int line = 0; line < 4; line++) {
            for (int wire = 0; wire < 10; wire++) Due.is("wire " + wire + " of " + line, x.down(line, wire, false), 0);
        }
    }

    // NONE = -1, BAD = -2, STATE = -3, FULL = -4
    static void p01_constants() {
        Due.is("NONE", OneWire.NONE, -1);
        Due.is("BAD", OneWire.BAD, -2);
        Due.is("STATE", OneWire.STATE, -3);
        Due.is("FULL", OneWire.FULL, -4);
    }

    // An object is used for at most 512 calls: the 512th is as due
    static void p01_the512thCall() {
        OneWire x = new OneWire();
        for (int k = 1; k < 512; k++) Due.is("call " + k, x.count(3), 0);
        Due.is("call 512", x.minute(200), 200);
    }

    // ---- promise 2

    // LINES 0 .. 3; NONE: line
    static void p02_lineTooSmall() {
        OneWire x = new OneWire();
        Due.is("line -1", x.farm(-1, 0, 0), NONE);
        Due.is("line MIN", x.farm(MIN, 0, 0), NONE);
    }

    static void p02_lineTooLarge() {
        OneWire x = new OneWire();
        Due.is("line 4", x.farm(4, 0, 0), NONE);
        Due.is("line MAX", x.farm(MAX, 0, 0), NONE);
    }

    static void p02_firstAndLastLine() {
        OneWire x = new OneWire();
        Due.is("line 0", x.farm(0, 0, 0), 0);
        Due.is("line 3", x.farm(3, 0, 0), 1);
        Due.is("they are on lines apart", x.ring(0, 1, 1), 0);
        Due.is("a through", x.of(0, 0), 2);
    }

    // POSTS 0 .. 9; NONE: post
    static void p02_postTooSmall() {
        OneWire x = new OneWire();
        Due.is("post -1", x.farm(0, -1, 0), NONE);
        Due.is("post MIN", x.farm(0, MIN, 0), NONE);
    }

    static void p02_postTooLarge() {
        OneWire x = new OneWire();
        Due.is("post 10", x.farm(0, 10, 0), NONE);
        Due.is("post 10 is none of the next line", x.farm(1, 10, 0), NONE);
        Due.is("post MAX", x.farm(0, MAX, 0), NONE);
    }

    // (POST 0 nearest): as loud as one post is, and as ten are
    static void p02_firstAndLastPost() {
        OneWire x = new OneWire();
        Due.is("post 0", x.farm(0, 0, 0), 0);
        Due.is("post 9", x.farm(0, 9, 0), 1);
        x.call(3, 0, 1);
        x.call(3, 1, 1);
        Due.is("out from post 0", x.of(0, 6), 96);
        Due.is("out from post 9", x.of(1, 6), 60);
    }

    // EARS (0 .. 9); BAD: ears
    static void p02_earsTooSmall() {
        OneWire x = new OneWire();
        Due.is("ears -1", x.farm(0, 0, -1), BAD);
        Due.is("ears MIN", x.farm(0, 0, MIN), BAD);
    }

    static void p02_earsTooLarge() {
        OneWire x = new OneWire();
        Due.is("ears 10", x.farm(0, 0, 10), BAD);
        Due.is("ears MAX", x.farm(0, 0, MAX), BAD);
    }

    static void p02_leastAndMostEars() {
        OneWire x = new OneWire();
        Due.is("ears 0", x.farm(0, 0, 0), 0);
        Due.is("ears 9", x.farm(0, 0, 9), 1);
        x.ring(1, 0, 1);
        x.ring(0, 1, 1);
        Due.is("to ears 0", x.of(0, 6), 100);
        Due.is("to ears 9", x.of(1, 6), 109);
    }

    // each on a LINE at a POST (several may be at one)
    static void p02_severalAtOnePost() {
        OneWire x = new OneWire();
        for (int k = 0; k < 12; k++) Due.is("farm " + k, x.farm(2, 5, 3), k);
    }

    // FARMS are numbered from 0 on, 12 at most; FULL
    static void p02_the12thAndThe13th() {
        OneWire x = line(0, 11);
        Due.is("the 12th", x.farm(0, 0, 0), 11);
        Due.is("the 13th", x.farm(0, 0, 0), FULL);
        Due.is("again", x.farm(3, 9, 9), FULL);
        Due.is("farms", x.count(0), 12);
    }

    // REFUSALS, of several the first one told: NONE: line, post; BAD: ears; FULL
    static void p02_noneAheadOfBad() {
        OneWire x = new OneWire();
        Due.is("line and ears", x.farm(4, 0, 10), NONE);
        Due.is("post and ears", x.farm(0, 10, 10), NONE);
    }

    static void p02_noneAheadOfFull() {
        OneWire x = line(0, 12);
        Due.is("line and full", x.farm(-1, 0, 0), NONE);
        Due.is("post and full", x.farm(0, -1, 0), NONE);
    }

    static void p02_badAheadOfFull() {
        Due.is("ears and full", line(0, 12).farm(0, 0, 10), BAD);
    }

    // They change nothing.
    static void p02_refusedIsNoFarm() {
        OneWire x = new OneWire();
        x.farm(4, 0, 0);
        x.farm(0, 10, 0);
        x.farm(0, 0, 10);
        Due.is("farms", x.count(0), 0);
        Due.is("the next one", x.farm(0, 0, 0), 0);
    }

    // ---- promise 3

    // CODE: none at first; that ahead (0)
    static void p03_noneAtFirst() {
        Due.is("ahead", line(0, 1).code(0, 1, 1), 0);
    }

    // 16 times the signs and the bits of that ahead
    static void p03_ofThatAhead() {
        OneWire x = line(0, 1);
        x.code(0, 1, 0);
        Due.is("one sign, short", x.code(0, 4, 15), 16);
        Due.is("four signs, long", x.code(0, 4, 0), 79);
        Due.is("four signs, short", x.code(0, 4, 0), 64);
    }

    // (signs 0: none)
    static void p03_signs0IsNone() {
        OneWire x = line(0, 2);
        x.code(1, 1, 0);
        x.code(0, 1, 0);
        Due.is("alike", x.like(0, 1), 9);
        Due.is("that ahead", x.code(0, 0, 0), 16);
        Due.is("0, if one has none", x.like(0, 1), 0);
        Due.is("that ahead is none", x.code(0, 1, 0), 0);
    }

    // NONE
    static void p03_farmTooSmall() {
        OneWire x = line(0, 1);
        Due.is("farm -1", x.code(-1, 1, 0), NONE);
        Due.is("farm MIN", x.code(MIN, 1, 0), NONE);
    }

    static void p03_farmTooLarge() {
        OneWire x = line(0, 12);
        Due.is("farm 11", x.code(11, 1, 0), 0);
        Due.is("farm 12", x.code(12, 1, 0), NONE);
        Due.is("farm MAX", x.code(MAX, 1, 0), NONE);
        Due.is("farm 1 of one", line(0, 1).code(1, 1, 0), NONE);
    }

    // BAD: signs (0 .. 4)
    static void p03_signsTooSmall() {
        OneWire x = line(0, 1);
        Due.is("signs -1", x.code(0, -1, 0), BAD);
        Due.is("signs MIN", x.code(0, MIN, 0), BAD);
        Due.is("signs -32", x.code(0, -32, 0), BAD);
    }

    static void p03_signsTooLarge() {
        OneWire x = line(0, 1);
        Due.is("signs 4", x.code(0, 4, 0), 0);
        Due.is("signs 5", x.code(0, 5, 0), BAD);
        Due.is("signs 33", x.code(0, 33, 1), BAD);
        Due.is("signs MAX", x.code(0, MAX, 0), BAD);
    }

    // BAD: bits (0 .. as many as signs let)
    static void p03_bitsTooSmall() {
        OneWire x = line(0, 1);
        for (int signs = 0; signs <= 4; signs++) {
            Due.is("bits -1 of " + signs, x.code(0, signs, -1), BAD);
            Due.is("bits MIN of " + signs, x.code(0, signs, MIN), BAD);
        }
    }

    static void p03_bitsTooLarge() {
        OneWire x = line(0, 1);
        int[] most = {0, 1, 3, 7, 15};
        int ahead = 0;
        for (int signs = 0; signs <= 4; signs++) {
            Due.is("most bits of " + signs, x.code(0, signs, most[signs]), ahead);
            Due.is("one more of " + signs, x.code(0, signs, most[signs] + 1), BAD);
            Due.is("MAX of " + signs, x.code(0, signs, MAX), BAD);
            ahead = 16 * signs + most[signs];
        }
    }

    static void p03_noneAheadOfBad() {
        OneWire x = line(0, 1);
        Due.is("farm and signs", x.code(1, 5, 0), NONE);
        Due.is("farm and bits", x.code(-1, 1, 2), NONE);
    }

    static void p03_refusedKeepsTheCode() {
        OneWire x = line(0, 1);
        x.code(0, 3, 5);
        x.code(0, 5, 0);
        x.code(0, 3, 8);
        x.code(1, 1, 1);
        Due.is("that ahead", x.code(0, 0, 0), 53);
    }

    // ---- promise 4

    private static int like(int signs, int bits, int others, int otherBits) {
        OneWire x = line(0, 2);
        x.code(0, signs, bits);
        x.code(1, others, otherBits);
        Due.is("turned", x.like(1, 0), x.like(0, 1));
        return x.like(0, 1);
    }

    // if they have as many signs: 3 less how many signs differ
    static void p04_asManySigns() {
        Due.is("one of one", like(1, 0, 1, 1), 2);
        Due.is("one of four, the first", like(4, 0, 4, 1), 2);
        Due.is("one of four, the last", like(4, 0, 4, 8), 2);
        Due.is("two of two", like(2, 0, 2, 3), 1);
        Due.is("two of four", like(4, 9, 4, 0), 1);
        Due.is("three of three", like(3, 2, 3, 5), 0);
    }

    // (0 at least)
    static void p04_0AtLeast() {
        Due.is("three differ", like(4, 0, 4, 7), 0);
        Due.is("four differ", like(4, 0, 4, 15), 0);
        Due.is("four differ", like(4, 5, 4, 10), 0);
    }

    // (alike: 9)
    static void p04_alike() {
        for (int signs = 1; signs <= 4; signs++) {
            for (int bits = 0; bits < 1 << signs; bits++) Due.is(signs + "/" + bits, like(signs, bits, signs, bits), 9);
        }
    }

    // if one has a sign more: 2, if leaving out some sign of it makes the other one
    static void p04_aSignMore() {
        Due.is("less the first", like(4, 14, 3, 7), 2);
        Due.is("less the second", like(4, 13, 3, 7), 2);
        Due.is("less the third", like(4, 11, 3, 7), 2);
        Due.is("less the last", like(4, 7, 3, 7), 2);
        Due.is("less the first alone", like(4, 12, 3, 6), 2);
        Due.is("less the last alone", like(4, 3, 3, 3), 2);
        Due.is("one of two", like(2, 2, 1, 0), 2);
        Due.is("the other of two", like(2, 2, 1, 1), 2);
    }

    // else 0
    static void p04_aSignMoreElse0() {
        Due.is("two and one", like(2, 0, 1, 1), 0);
        Due.is("two and one", like(2, 3, 1, 0), 0);
        Due.is("four and three, two would differ", like(4, 0, 3, 1), 0);
        Due.is("the same bits, turned about", like(4, 5, 3, 7), 0);
        Due.is("three and two", like(3, 7, 2, 1), 0);
    }

    // if one has a sign more ..; else 0: two signs more are not one
    static void p04_twoSignsMore() {
        Due.is("three and one", like(3, 0, 1, 0), 0);
        Due.is("four and two", like(4, 15, 2, 3), 0);
        Due.is("four and one", like(4, 0, 1, 0), 0);
    }

    // (0, if one has no CODE)
    static void p04_noCode() {
        OneWire x = line(0, 3);
        Due.is("neither", x.like(0, 1), 0);
        x.code(0, 1, 0);
        Due.is("the other one", x.like(0, 1), 0);
        Due.is("the one", x.like(1, 0), 0);
    }

    // of two FARMS: also on two lines
    static void p04_onTwoLines() {
        OneWire x = line(0, 1);
        x.farm(3, 9, 0);
        x.code(0, 2, 2);
        x.code(1, 2, 2);
        Due.is("alike", x.like(0, 1), 9);
    }

    // NONE; BAD: one
    static void p04_noFarm() {
        OneWire x = line(0, 2);
        Due.is("a -1", x.like(-1, 0), NONE);
        Due.is("b -1", x.like(0, -1), NONE);
        Due.is("a 2", x.like(2, 0), NONE);
        Due.is("b 2", x.like(0, 2), NONE);
        Due.is("a MAX", x.like(MAX, 0), NONE);
        Due.is("b MIN", x.like(0, MIN), NONE);
    }

    static void p04_oneFarm() {
        OneWire x = line(0, 2);
        Due.is("0 and 0", x.like(0, 0), BAD);
        x.code(1, 1, 1);
        Due.is("1 and 1", x.like(1, 1), BAD);
    }

    static void p04_noneAheadOfBad() {
        OneWire x = line(0, 2);
        Due.is("2 and 2", x.like(2, 2), NONE);
        Due.is("-1 and -1", x.like(-1, -1), NONE);
    }

    // ---- promise 5

    // NONE
    static void p05_noLine() {
        OneWire x = line(0, 2);
        Due.is("line -1", x.mistakes(-1), NONE);
        Due.is("line 4", x.mistakes(4), NONE);
        Due.is("line MIN", x.mistakes(MIN), NONE);
        Due.is("line MAX", x.mistakes(MAX), NONE);
    }

    static void p05_firstAndLastLine() {
        OneWire x = line(0, 2);
        x.farm(3, 0, 0);
        x.farm(3, 0, 0);
        x.code(0, 1, 0);
        x.code(1, 1, 1);
        x.code(2, 1, 0);
        x.code(3, 1, 0);
        Due.is("line 0", x.mistakes(0), 2);
        Due.is("line 1, without farms", x.mistakes(1), 0);
        Due.is("line 3", x.mistakes(3), 9);
    }

    // over all two FARMS of it that have CODES
    static void p05_withoutCodes() {
        OneWire x = line(1, 3);
        Due.is("none has one", x.mistakes(1), 0);
        x.code(1, 2, 0);
        Due.is("one has one", x.mistakes(1), 0);
        x.code(2, 2, 0);
        Due.is("two have one", x.mistakes(1), 9);
    }

    // together
    static void p05_together() {
        OneWire x = line(2, 12);
        for (int k = 0; k < 12; k++) x.code(k, 4, 9);
        Due.is("66 twos", x.mistakes(2), 594);
        x.code(11, 4, 8);
        Due.is("55 and 11", x.mistakes(2), 55 * 9 + 11 * 2);
    }

    // ---- promise 6

    private static void row(OneWire x, int line, int n, int... want) {
        for (int i = -1; i < want.length - 1; i++) Due.is("n " + n + ", i " + i, x.best(line, n, i), want[i + 1]);
    }

    // NONE: line
    static void p06_noLine() {
        OneWire x = line(0, 2);
        Due.is("line -1", x.best(-1, 1, -1), NONE);
        Due.is("line 4", x.best(4, 1, -1), NONE);
        Due.is("line MIN", x.best(MIN, 1, -1), NONE);
        Due.is("line MAX", x.best(MAX, 1, -1), NONE);
    }

    // NONE: i (-1, or the i-th FARM)
    static void p06_iTooSmall() {
        OneWire x = line(0, 2);
        Due.is("i -2", x.best(0, 1, -2), NONE);
        Due.is("i MIN", x.best(0, 1, MIN), NONE);
    }

    static void p06_iTooLarge() {
        OneWire x = line(0, 2);
        Due.is("i 1 of two", x.best(0, 1, 1), 17);
        Due.is("i 2 of two", x.best(0, 1, 2), NONE);
        Due.is("i MAX", x.best(0, 1, MAX), NONE);
        Due.is("i 0 on a line without farms", x.best(1, 1, 0), NONE);
    }

    // (5 at most by numbers)
    static void p06_fiveAtMost() {
        for (int farms = 5; farms <= 12; farms += 7) {
            OneWire x = line(0, farms);
            row(x, 0, 2, 15, 16, 17, 32, 33, 35);
            row(x, 0, 3, 3, 16, 35, 49, 50, 52);
            Due.is("i 5 of " + farms, x.best(0, 2, 5), NONE);
        }
    }

    // of FARMS on it: those of other lines are not
    static void p06_ofItsOwnFarms() {
        OneWire x = line(0, 5);
        x.farm(1, 0, 0);
        x.farm(2, 0, 0);
        x.farm(1, 9, 0);
        row(x, 1, 1, 2, 16, 17);
        row(x, 2, 1, 0, 16);
        Due.is("i 1 of one", x.best(2, 1, 1), NONE);
    }

    static void p06_noFarmsOnIt() {
        OneWire x = new OneWire();
        for (int n = 1; n <= 3; n++) Due.is("no mistakes, n " + n, x.best(3, n, -1), 0);
    }

    // n 1 .. 3; BAD: n
    static void p06_nTooSmall() {
        OneWire x = line(0, 2);
        Due.is("n 0", x.best(0, 0, -1), BAD);
        Due.is("n -1", x.best(0, -1, 0), BAD);
        Due.is("n MIN", x.best(0, MIN, -1), BAD);
    }

    static void p06_nTooLarge() {
        OneWire x = line(0, 2);
        Due.is("n 3", x.best(0, 3, -1), 0);
        Due.is("n 4", x.best(0, 4, -1), BAD);
        Due.is("n MAX", x.best(0, MAX, -1), BAD);
    }

    static void p06_noneAheadOfBad() {
        OneWire x = line(0, 2);
        Due.is("line and n", x.best(4, 0, -1), NONE);
        Due.is("i and n", x.best(0, 4, 2), NONE);
        Due.is("i and n", x.best(0, 0, -2), NONE);
    }

    // -5: there are not so many CODES
    static void p06_notSoManyCodes() {
        row(line(0, 2), 0, 1, 2, 16, 17);
        for (int farms = 3; farms <= 6; farms++) {
            OneWire x = line(0, farms);
            Due.is("mistakes of " + farms, x.best(0, 1, -1), -5);
            Due.is("first of " + farms, x.best(0, 1, 0), -5);
            Due.is("last of " + farms, x.best(0, 1, Math.min(farms, 5) - 1), -5);
        }
    }

    static void p06_refusalsAheadOfNotSoMany() {
        OneWire x = line(0, 3);
        Due.is("i 3 of three", x.best(0, 1, 3), NONE);
        Due.is("n 0", x.best(0, 0, 0), BAD);
    }

    // the least MISTAKES of these together
    static void p06_leastMistakes() {
        row(line(0, 3), 0, 2, 3, 16, 32, 35);
        row(line(0, 4), 0, 3, 1, 16, 35, 49, 50);
    }

    // (no two alike)
    static void p06_noTwoAlike() {
        row(line(0, 2), 0, 1, 2, 16, 17);
        row(line(0, 5), 0, 2, 15, 16, 17, 32, 33, 35);
    }

    // of such choices that with fewest signs together
    static void p06_fewestSigns() {
        row(line(0, 1), 0, 3, 0, 16);
        row(line(0, 2), 0, 3, 0, 16, 35);
    }

    // then the least row
    static void p06_leastRow() {
        // 17 and 32, turned about or with others, has no mistakes and three signs, too
        row(line(0, 2), 0, 2, 0, 16, 35);
        row(line(0, 3), 0, 3, 0, 16, 35, 48);
    }

    // the row of each line and n that there can be
    static void p06_allRows() {
        row(line(0, 1), 0, 1, 0, 16);
        row(line(0, 1), 0, 2, 0, 16);
        row(line(0, 1), 0, 3, 0, 16);
        row(line(0, 2), 0, 1, 2, 16, 17);
        row(line(0, 2), 0, 2, 0, 16, 35);
        row(line(0, 2), 0, 3, 0, 16, 35);
        row(line(0, 3), 0, 2, 3, 16, 32, 35);
        row(line(0, 3), 0, 3, 0, 16, 35, 48);
        row(line(0, 4), 0, 2, 7, 16, 17, 32, 35);
        row(line(0, 4), 0, 3, 1, 16, 35, 49, 50);
        row(line(0, 5), 0, 2, 15, 16, 17, 32, 33, 35);
        row(line(0, 5), 0, 3, 3, 16, 35, 49, 50, 52);
    }

    // CODES that FARMS have do not matter: of up to n signs any
    static void p06_ofAnyCodes() {
        OneWire x = line(0, 2);
        x.code(0, 4, 15);
        x.code(1, 1, 0);
        row(x, 0, 2, 0, 16, 35);
        Due.is("they stay", x.code(0, 0, 0), 79);
    }

    // another row is sought when another farm is there, or another n
    static void p06_soughtAgain() {
        OneWire x = line(0, 1);
        row(x, 0, 3, 0, 16);
        x.farm(0, 5, 0);
        row(x, 0, 3, 0, 16, 35);
        row(x, 0, 1, 2, 16, 17);
        x.farm(0, 5, 0);
        Due.is("three of two", x.best(0, 1, -1), -5);
        row(x, 0, 2, 3, 16, 32, 35);
        x.farm(1, 5, 0);
        row(x, 1, 2, 0, 16);
        row(x, 0, 2, 3, 16, 32, 35);
    }

    public static void main(String[] args) {
        Edges.run(EdgesFarmsTest.class, 1, 6);
    }
}
