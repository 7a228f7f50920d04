/** Boundary cases of promises 19 to 23: wires, told rings, what explains them. Each remark is the document's sentence. */
public final class EdgesWiresTest {
    private static final int NONE = Edges.NONE, BAD = Edges.BAD, STATE = Edges.STATE, FULL = Edges.FULL;
    private static final int MIN = Edges.MIN, MAX = Edges.MAX;

    /** Farms 0, 1 and 2 on line 0 (posts 0, 5, 9), 3, 4 and 5 on line 3 (posts 0, 5, 9), 6 as 1. */
    private static OneWire farms() {
        OneWire x = new OneWire();
        x.farm(0, 0, 0);
        x.farm(0, 5, 0);
        x.farm(0, 9, 0);
        x.farm(3, 0, 0);
        x.farm(3, 5, 0);
        x.farm(3, 9, 0);
        x.farm(0, 5, 0);
        return x;
    }

    // ---- promise 19

    // NONE: there is no such LINE
    static void p19_lineTooSmallOrTooLarge() {
        OneWire x = farms();
        for (int line : new int[] {-1, 4, MIN, MAX}) {
            Due.is("line " + line, x.down(line, 0, true), NONE);
            Due.is("line " + line, x.down(line, 9, false), NONE);
        }
    }

    // NONE: there is no such WIRE
    static void p19_wireTooSmallOrTooLarge() {
        OneWire x = farms();
        for (int wire : new int[] {-1, 10, MIN, MAX}) {
            Due.is("wire " + wire, x.down(0, wire, true), NONE);
            Due.is("wire " + wire + " of line 3", x.down(3, wire, true), NONE);
        }
    }

    // They change nothing: no WIRE of the next LINE is DOWN, nor of that ahead
    static void p19_noWireOfAnotherLine() {
        OneWire x = farms();
        x.down(1, -1, true);
        x.down(0, 10, true);
        x.down(4, 0, true);
        x.down(-1, 9, true);
        for (int line = 0; line < 4; line++) {
            for (int wire = 0; wire < 10; wire++) Due.is("wire " + wire + " of " + line, x.down(line, wire, false), 0);
        }
    }

    // A WIRE is DOWN, or up: whether it was DOWN
    static void p19_whetherItWas() {
        OneWire x = farms();
        for (int line = 0; line < 4; line += 3) {
            for (int wire = 0; wire < 10; wire += 9) {
                Due.is("it was up", x.down(line, wire, false), 0);
                Due.is("it was up", x.down(line, wire, true), 0);
                Due.is("it was down", x.down(line, wire, true), 1);
                Due.is("it was down", x.down(line, wire, false), 1);
                Due.is("it was up", x.down(line, wire, false), 0);
            }
        }
    }

    // each WIRE by itself
    static void p19_eachByItself() {
        OneWire x = farms();
        for (int k = 0; k < 40; k += 2) x.down(k / 10, k % 10, true);
        for (int k = 0; k < 40; k++) Due.is("wire " + k % 10 + " of " + k / 10, x.down(k / 10, k % 10, false), 1 - k % 2);
        for (int k = 0; k < 40; k++) Due.is("wire " + k % 10 + " of " + k / 10, x.down(k / 10, k % 10, true), 0);
    }

    // ---- promise 20

    // NONE
    static void p20_fromTooSmallOrTooLarge() {
        OneWire x = farms();
        for (int from : new int[] {-1, 7, 12, 13, MIN, MAX}) Due.is("from " + from, x.reach(from, 0), NONE);
        Due.is("from the board to it", x.reach(12, 12), NONE);
    }

    static void p20_toTooSmallOrTooLarge() {
        OneWire x = farms();
        for (int to : new int[] {-1, 7, 11, 13, MIN, MAX}) Due.is("to " + to, x.reach(0, to), NONE);
    }

    // another one, or THE BOARD (12): also with 12 FARMS
    static void p20_the12thFarmAndTheBoard() {
        OneWire x = farms();
        for (int k = 7; k < 12; k++) x.farm(1, 0, 0);
        x.down(0, 0, true);
        Due.is("farm 11 to farm 0", x.reach(11, 0), 0);
        Due.is("farm 11 to the board", x.reach(11, 12), 1);
        Due.is("farm 0 to the board", x.reach(0, 12), 0);
        Due.is("13", x.reach(11, 13), NONE);
    }

    private static void reaches(int from, int to, int line, int first, int last) {
        OneWire x = farms();
        for (int wire = 0; wire < 10; wire++) {
            x.down(line, wire, true);
            int want = wire >= first && wire <= last ? 0 : 1;
            Due.is(from + " to " + to + ", wire " + wire + " of " + line, x.reach(from, to), want);
            if (to != 12) Due.is("back", x.reach(to, from), want);
            x.down(line, wire, false);
        }
    }

    // between THE BOARD and POST 0, is a WIRE: WIRE k of a LINE ends at POST k
    static void p20_toTheBoard() {
        reaches(0, 12, 0, 0, 0);
        reaches(1, 12, 0, 0, 5);
        reaches(2, 12, 0, 0, 9);
        reaches(3, 12, 3, 0, 0);
        reaches(4, 12, 3, 0, 5);
        reaches(5, 12, 3, 0, 9);
        reaches(2, 12, 3, 10, 10);
        reaches(5, 12, 0, 10, 10);
    }

    // Between neighbouring POSTS of a LINE .. is a WIRE
    static void p20_onOneLine() {
        reaches(0, 1, 0, 1, 5);
        reaches(1, 2, 0, 6, 9);
        reaches(0, 2, 0, 1, 9);
        reaches(3, 5, 3, 1, 9);
        reaches(4, 5, 3, 6, 9);
        reaches(0, 2, 3, 10, 10);
    }

    static void p20_atOnePost() {
        reaches(1, 6, 0, 10, 10);
        reaches(1, 1, 0, 10, 10);
    }

    static void p20_overTheBoard() {
        reaches(0, 3, 0, 0, 0);
        reaches(0, 3, 3, 0, 0);
        reaches(2, 4, 0, 0, 9);
        reaches(2, 4, 3, 0, 5);
        reaches(2, 4, 1, 10, 10);
    }

    // Whether: all WIRES down, or none
    static void p20_allOrNone() {
        OneWire x = farms();
        for (int from = 0; from < 7; from++) for (int to = 0; to < 7; to++) Due.is("none", x.reach(from, to), 1);
        for (int k = 0; k < 40; k++) x.down(k / 10, k % 10, true);
        for (int from = 0; from < 7; from++) {
            Due.is("the board", x.reach(from, 12), 0);
            for (int to = 0; to < 7; to++) {
                boolean near = from == to || from + to == 7 && from % 5 == 1;
                Due.is(from + " to " + to, x.reach(from, to), near ? 1 : 0);
            }
        }
    }

    // ---- promise 21

    // NONE: farms (to 12: THE BOARD)
    static void p21_fromTooSmallOrTooLarge() {
        OneWire x = farms();
        for (int from : new int[] {-1, 7, 12, MIN, MAX}) Due.is("from " + from, x.told(from, 0, true), NONE);
    }

    static void p21_toTooSmallOrTooLarge() {
        OneWire x = farms();
        for (int to : new int[] {-1, 7, 11, 13, MIN, MAX}) Due.is("to " + to, x.told(0, to, true), NONE);
        Due.is("to 12", x.told(0, 12, true), 1);
    }

    // BAD: one FARM
    static void p21_oneFarm() {
        OneWire x = farms();
        for (int farm = 0; farm < 7; farm++) {
            Due.is("it could", x.told(farm, farm, true), BAD);
            Due.is("it couldn't", x.told(farm, farm, false), BAD);
        }
        Due.is("at one post are two", x.told(1, 6, true), 1);
    }

    static void p21_noneAheadOfBad() {
        OneWire x = farms();
        Due.is("7 and 7", x.told(7, 7, true), NONE);
        Due.is("-1 and -1", x.told(-1, -1, true), NONE);
        Due.is("12 and 12", x.told(12, 12, true), NONE);
    }

    private static OneWire full() {
        OneWire x = farms();
        for (int k = 0; k < 20; k++) x.told(0, 12, true);
        return x;
    }

    // TOLD RINGS, 20 at most; FULL
    static void p21_the20thAndThe21st() {
        OneWire x = farms();
        for (int k = 1; k <= 20; k++) Due.is("told " + k, x.told(k % 7, k % 2 == 0 ? 12 : (k + 1) % 7, true), k);
        Due.is("a 21st", x.told(0, 1, true), FULL);
        Due.is("a 21st", x.told(0, 12, false), FULL);
    }

    static void p21_refusalsAheadOfFull() {
        OneWire x = full();
        Due.is("from", x.told(7, 0, true), NONE);
        Due.is("to", x.told(0, 13, true), NONE);
        Due.is("one farm", x.told(0, 0, true), BAD);
    }

    // They change nothing
    static void p21_refusedIsNotTold() {
        OneWire x = full();
        x.told(1, 12, false);
        Due.is("the 21st", x.storm(1), 1);
        OneWire y = farms();
        y.told(0, 0, false);
        y.told(7, 12, false);
        Due.is("how many", y.told(0, 12, true), 1);
        Due.is("all explained", y.storm(0), 0);
    }

    // the 20th matters as the first one does
    static void p21_the20thMatters() {
        OneWire x = farms();
        x.maybe(0, 9);
        for (int k = 0; k < 19; k++) x.told(0, 12, true);
        Due.is("19 could", x.storm(0), 0);
        x.told(2, 12, false);
        Due.is("the 20th couldn't", x.storm(0), 1);
    }

    // a FARM told twice, or both ways, is a RING told twice
    static void p21_toldTwice() {
        OneWire x = farms();
        Due.is("told", x.told(0, 1, true), 1);
        Due.is("again", x.told(0, 1, true), 2);
        Due.is("turned", x.told(1, 0, true), 3);
        Due.is("otherwise", x.told(0, 1, false), 4);
    }

    // ---- promise 22

    // NONE
    static void p22_lineTooSmallOrTooLarge() {
        OneWire x = farms();
        for (int line : new int[] {-1, 4, MIN, MAX}) Due.is("line " + line, x.maybe(line, 0), NONE);
    }

    static void p22_wireTooSmallOrTooLarge() {
        OneWire x = farms();
        for (int wire : new int[] {-1, 10, MIN, MAX}) Due.is("wire " + wire, x.maybe(0, wire), NONE);
    }

    static void p22_firstAndLastWire() {
        OneWire x = farms();
        Due.is("wire 0 of 0", x.maybe(0, 0), 1);
        Due.is("wire 9 of 0", x.maybe(0, 9), 2);
        Due.is("wire 0 of 3", x.maybe(3, 0), 3);
        Due.is("wire 9 of 3", x.maybe(3, 9), 4);
    }

    // STATE: it was told
    static void p22_itWasTold() {
        OneWire x = farms();
        for (int k = 1; k <= 10; k++) Due.is("maybe " + k, x.maybe(k % 4, k % 10), k);
        for (int k = 1; k <= 10; k++) Due.is("again " + k, x.maybe(k % 4, k % 10), STATE);
    }

    // (10 at most ..); FULL
    static void p22_the10thAndThe11th() {
        OneWire x = farms();
        for (int k = 1; k <= 9; k++) x.maybe(1, k);
        Due.is("a 10th", x.maybe(1, 0), 10);
        Due.is("an 11th", x.maybe(2, 0), FULL);
        Due.is("an 11th", x.maybe(3, 9), FULL);
    }

    static void p22_refusalsAheadOfFull() {
        OneWire x = farms();
        for (int k = 0; k < 10; k++) x.maybe(1, k);
        Due.is("line", x.maybe(4, 0), NONE);
        Due.is("wire", x.maybe(0, 10), NONE);
        Due.is("it was told", x.maybe(1, 0), STATE);
        Due.is("it was told", x.maybe(1, 9), STATE);
    }

    // They change nothing
    static void p22_refusedMayNotBe() {
        OneWire x = farms();
        x.maybe(0, 10);
        x.maybe(4, 0);
        x.maybe(0, 0);
        x.maybe(0, 0);
        Due.is("how many", x.maybe(0, 1), 2);
        for (int k = 2; k < 10; k++) x.maybe(0, k);
        x.maybe(3, 0);
        x.told(3, 12, false);
        Due.is("the 11th may not be", x.storm(0), -5);
    }

    // ---- promise 23

    // NONE
    static void p23_whatTooSmallOrTooLarge() {
        OneWire x = farms();
        for (int what : new int[] {-1, 2, MIN, MAX}) Due.is("what " + what, x.storm(what), NONE);
        x.told(0, 12, false);
        for (int what : new int[] {-1, 2, MIN, MAX}) Due.is("what " + what + ", no set", x.storm(what), NONE);
    }

    private static void storm(String what, OneWire x, int fewest, int rivals) {
        Due.is(what + ", fewest", x.storm(0), fewest);
        Due.is(what + ", rivals", x.storm(1), rivals);
        Due.is(what + ", fewest again", x.storm(0), fewest);
    }

    // the set of the fewest: of none, if nothing was told
    static void p23_nothingTold() {
        OneWire x = farms();
        storm("no wires", x, 0, 1);
        for (int k = 0; k < 10; k++) x.maybe(0, k);
        storm("ten wires", x, 0, 1);
    }

    static void p23_allCould() {
        OneWire x = farms();
        x.told(0, 1, true);
        x.maybe(0, 3);
        storm("all could", x, 0, 1);
    }

    // -5: no set EXPLAINS
    static void p23_noSetExplains() {
        OneWire x = farms();
        x.told(0, 12, false);
        storm("no wire may be", x, -5, -5);
        x.maybe(0, 1);
        storm("not this one", x, -5, -5);
        x.maybe(0, 0);
        storm("this one", x, 2, 1);
        x.told(0, 12, true);
        storm("it could and couldn't", x, -5, -5);
    }

    // of FARMS at one POST no WIRE is between
    static void p23_atOnePost() {
        OneWire x = farms();
        for (int k = 0; k < 10; k++) x.maybe(0, k);
        x.told(1, 6, false);
        storm("it couldn't", x, -5, -5);
    }

    // as it would be (just these being DOWN): those that are DOWN now do not matter
    static void p23_justTheseBeingDown() {
        OneWire x = farms();
        x.down(0, 0, true);
        x.told(0, 12, true);
        storm("it could", x, 0, 1);
        x.told(1, 12, false);
        storm("no wire may be", x, -5, -5);
        x.maybe(0, 0);
        storm("this one is on both ways", x, -5, -5);
    }

    // FEWEST: the set of the fewest that does: fewer WIRES ahead of lesser bits
    static void p23_fewest() {
        OneWire x = farms();
        x.told(0, 1, false);
        x.told(1, 2, false);
        x.maybe(0, 1);
        x.maybe(0, 6);
        storm("one each", x, 3, 1);
        OneWire y = farms();
        y.told(0, 12, false);
        y.told(3, 12, false);
        y.told(0, 3, false);
        y.maybe(0, 0);
        y.maybe(3, 0);
        storm("one each", y, 3, 1);
        OneWire z = farms();
        z.told(0, 2, false);
        z.told(1, 12, false);
        z.maybe(0, 9);
        z.maybe(0, 0);
        z.maybe(0, 3);
        storm("the third for both", z, 4, 1);
    }

    // of several the least as bits
    static void p23_leastAsBits() {
        OneWire x = farms();
        x.told(2, 12, false);
        x.maybe(3, 9);
        for (int k = 9; k > 0; k--) x.maybe(0, k);
        storm("nine of ten", x, 2, 9);
    }

    // RIVALS: how many of so many do
    static void p23_rivals() {
        OneWire x = farms();
        x.told(2, 1, false);
        x.told(5, 4, false);
        for (int k = 6; k < 10; k++) x.maybe(0, k);
        for (int k = 6; k < 10; k++) x.maybe(3, k);
        storm("four times four", x, 17, 16);
    }

    // 10 at most: all ten
    static void p23_allTen() {
        OneWire x = new OneWire();
        for (int k = 0; k < 10; k++) x.farm(0, k, 0);
        for (int k = 0; k < 10; k++) x.maybe(0, k);
        x.told(0, 12, false);
        for (int k = 1; k < 10; k++) x.told(k - 1, k, false);
        storm("ten", x, 1023, 1);
        x.told(9, 12, false);
        storm("ten", x, 1023, 1);
        x.told(4, 5, true);
        storm("it could and couldn't", x, -5, -5);
    }

    // LINES 0 .. 3: a WIRE of line 3 is none of line 0
    static void p23_wiresOfTheLastLine() {
        OneWire x = farms();
        for (int k = 0; k < 10; k++) x.maybe(3, k);
        x.told(2, 12, false);
        storm("of line 0", x, -5, -5);
        OneWire y = farms();
        for (int k = 0; k < 10; k++) y.maybe(3, k);
        y.told(5, 12, false);
        y.told(4, 12, true);
        storm("of line 3", y, 64, 4);
    }

    // by places among those told
    static void p23_byPlaces() {
        OneWire x = farms();
        x.maybe(1, 1);
        x.maybe(3, 0);
        x.maybe(0, 0);
        x.told(0, 12, false);
        storm("the third", x, 4, 1);
    }

    // through: either FARM's way to THE BOARD
    static void p23_overTheBoard() {
        OneWire x = farms();
        x.told(0, 3, false);
        x.maybe(3, 0);
        x.maybe(0, 0);
        storm("either", x, 1, 2);
        x.told(3, 12, true);
        storm("the one", x, 2, 1);
    }

    public static void main(String[] args) {
        Edges.run(EdgesWiresTest.class, 19, 23);
    }
}
