/** Promises 19 to 23: wires that are down, told rings, what explains them. */
public final class WiresTest {
    private static final int NONE = OneWire.NONE, BAD = OneWire.BAD, STATE = OneWire.STATE, FULL = OneWire.FULL;
    private static final int[] WILD = {-1, 13, Integer.MIN_VALUE, Integer.MAX_VALUE};

    /** Farms 0 (post 2), 1 (7), 2 (4) on line 0; 3 (0), 4 (9) on line 3; 5 (4) on line 0. */
    private static OneWire farms() {
        OneWire x = new OneWire();
        x.farm(0, 2, 5);
        x.farm(0, 7, 0);
        x.farm(0, 4, 9);
        x.farm(3, 0, 3);
        x.farm(3, 9, 1);
        x.farm(0, 4, 0);
        return x;
    }

    private static void downs() {
        OneWire x = farms();
        for (int wild : WILD) {
            Due.is("19: line " + wild, x.down(wild, 0, true), NONE);
            Due.is("19: wire " + wild, x.down(0, wild, true), NONE);
        }
        Due.is("19: line 4", x.down(4, 0, true), NONE);
        Due.is("19: wire 10", x.down(0, 10, true), NONE);
        for (int line = 0; line < 4; line++) {
            for (int wire = 0; wire < 10; wire++) {
                Due.is("19: it was up", x.down(line, wire, true), 0);
                Due.is("19: it was down", x.down(line, wire, true), 1);
                Due.is("19: it was down", x.down(line, wire, false), 1);
                Due.is("19: it was up", x.down(line, wire, false), 0);
            }
        }
    }

    /** Where a wire that is down cuts a way, either way. */
    private static void way(int from, int to, int line, int first, int last) {
        for (int k = 0; k < 10; k++) {
            OneWire x = farms();
            x.down(line, k, true);
            int want = k >= first && k <= last ? 0 : 1;
            Due.is("20: from " + from + " to " + to + ", wire " + k + " of " + line, x.reach(from, to), want);
            if (to != 12) Due.is("20: back", x.reach(to, from), want);
        }
    }

    private static void ways() {
        way(0, 12, 0, 0, 2);
        way(0, 12, 1, 10, 10);
        way(3, 12, 3, 0, 0);
        way(4, 12, 3, 0, 9);
        way(0, 1, 0, 3, 7);
        way(0, 2, 0, 3, 4);
        way(3, 4, 3, 1, 9);
        way(2, 5, 0, 10, 10);
        way(2, 2, 0, 10, 10);
        way(0, 4, 0, 0, 2);
        way(0, 4, 3, 0, 9);
        way(1, 3, 3, 0, 0);
        OneWire x = farms();
        for (int wild : WILD) {
            Due.is("20: from " + wild, x.reach(wild, 0), NONE);
            Due.is("20: to " + wild, x.reach(0, wild), NONE);
        }
        Due.is("20: from the board", x.reach(12, 0), NONE);
        Due.is("20: to farm 6", x.reach(0, 6), NONE);
    }

    private static void tellings() {
        OneWire x = farms();
        for (int wild : WILD) {
            Due.is("21: from " + wild, x.told(wild, 0, true), NONE);
            Due.is("21: to " + wild, x.told(0, wild, true), NONE);
        }
        Due.is("21: from the board", x.told(12, 12, true), NONE);
        Due.is("21: to farm 6", x.told(0, 6, false), NONE);
        Due.is("21: one farm", x.told(5, 5, true), BAD);
        for (int k = 1; k <= 20; k++) Due.is("21: told " + k, x.told(0, k % 2 == 0 ? 12 : 1, true), k);
        Due.is("21: a 21st", x.told(0, 1, true), FULL);
        Due.is("21: one farm first", x.told(0, 0, true), BAD);
        Due.is("23: all can be", x.storm(0), 0);
    }

    private static void maybes() {
        OneWire x = farms();
        for (int wild : WILD) {
            Due.is("22: line " + wild, x.maybe(wild, 0), NONE);
            Due.is("22: wire " + wild, x.maybe(0, wild), NONE);
        }
        Due.is("22: line 4", x.maybe(4, 0), NONE);
        Due.is("22: wire 10", x.maybe(0, 10), NONE);
        for (int k = 1; k <= 10; k++) {
            Due.is("22: maybe " + k, x.maybe(k % 4, k - 1), k);
            Due.is("22: told ", x.maybe(k % 4, k - 1), STATE);
        }
        Due.is("22: an 11th", x.maybe(0, 0), FULL);
        Due.is("22: told first", x.maybe(1, 0), STATE);
        Due.is("22: none first", x.maybe(4, 0), NONE);
    }

    private static void storms() {
        OneWire x = farms();
        Due.is("23: nothing told", x.storm(0), 0);
        Due.is("23: nothing told, one set", x.storm(1), 1);
        for (int wild : WILD) Due.is("23: what " + wild, x.storm(wild), NONE);
        Due.is("23: what 2", x.storm(2), NONE);
        x.told(0, 12, false);
        Due.is("23: no wire may be", x.storm(0), -5);
        Due.is("23: no wire may be", x.storm(1), -5);
        x.maybe(0, 3);
        Due.is("23: not on its way", x.storm(0), -5);
        x.maybe(0, 2);
        Due.is("23: bit 1", x.storm(0), 2);
        Due.is("23: one", x.storm(1), 1);
        x.maybe(0, 0);
        Due.is("23: the least", x.storm(0), 2);
        Due.is("23: rivals", x.storm(1), 2);
        x.told(2, 0, false);
        Due.is("23: bits 0 and 1", x.storm(0), 3);
        Due.is("23: or 0 and 2", x.storm(1), 2);
        x.maybe(3, 5);
        x.told(4, 12, false);
        Due.is("23: and bit 3", x.storm(0), 11);
        x.maybe(0, 4);
        Due.is("23: still", x.storm(0), 11);
        Due.is("23: 3 or 4, 2 or 0, 5", x.storm(1), 4);
        x.told(0, 5, false);
        x.told(3, 12, true);
        Due.is("23: still", x.storm(1), 4);
        x.down(0, 0, true);
        Due.is("23: what is down doesn't matter", x.storm(0), 11);
        x.told(3, 1, true);
        Due.is("23: that can't be", x.storm(0), -5);
        Due.is("23: that can't be", x.storm(1), -5);
    }

    /** Fewer wires go ahead of lesser bits. */
    private static void fewest() {
        OneWire x = farms();
        x.maybe(3, 0);
        x.maybe(0, 0);
        for (int k = 2; k < 9; k++) x.maybe(1, k);
        x.told(3, 0, false);
        Due.is("23: either", x.storm(0), 1);
        Due.is("23: either", x.storm(1), 2);
        x.told(0, 12, false);
        Due.is("23: the one", x.storm(0), 2);
        Due.is("23: the one", x.storm(1), 1);
        x.told(3, 12, false);
        Due.is("23: both", x.storm(0), 3);
        x.maybe(2, 0);
        Due.is("23: with ten", x.storm(1), 1);
        // one wire on both ways is found behind two that are on one each
        OneWire y = farms();
        y.told(0, 4, false);
        y.told(1, 12, false);
        y.maybe(3, 3);
        y.maybe(0, 5);
        Due.is("23: the two", y.storm(0), 3);
        y.maybe(0, 0);
        Due.is("23: the one for both", y.storm(0), 4);
        Due.is("23: it alone", y.storm(1), 1);
    }

    public static void main(String[] args) {
        downs();
        ways();
        tellings();
        maybes();
        storms();
        fewest();
        Due.end();
    }
}
