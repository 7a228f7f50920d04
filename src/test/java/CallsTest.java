/** Promises 11 to 18: calls, minutes, the board, listeners. */
public final class CallsTest {
    private static final int NONE = OneWire.NONE, BAD = OneWire.BAD, STATE = OneWire.STATE, FULL = OneWire.FULL;
    private static final int[] WILD = {-1, 60, Integer.MIN_VALUE, Integer.MAX_VALUE};

    /** Farms 0 (post 2), 1 (7), 2 (4) on line 0; 3 (0), 4 (9) on line 1; 5 (3) on line 2. */
    private static OneWire farms() {
        OneWire x = new OneWire();
        x.farm(0, 2, 5);
        x.farm(0, 7, 0);
        x.farm(0, 4, 9);
        x.farm(1, 0, 3);
        x.farm(1, 9, 1);
        x.farm(2, 3, 0);
        return x;
    }

    private static void asked() {
        OneWire x = farms();
        for (int wild : WILD) {
            Due.is("11: from " + wild, x.ring(wild, 0, 99), NONE);
            Due.is("11: to " + wild, x.ring(0, wild, 99), NONE);
            Due.is("12: from " + wild, x.call(3, wild, 99), NONE);
            Due.is("12: kind " + wild, x.call(wild, 0, 99), NONE);
            Due.is("11: minutes " + wild, x.ring(0, 1, wild), BAD);
            Due.is("12: minutes " + wild, x.call(3, 0, wild), BAD);
        }
        Due.is("11: to farm 6", x.ring(0, 6, 1), NONE);
        Due.is("11: to the board", x.ring(0, 12, 1), NONE);
        Due.is("11: one farm", x.ring(0, 0, 1), BAD);
        Due.is("11: no farm twice", x.ring(6, 6, 1), NONE);
        Due.is("12: farm 6", x.call(3, 6, 1), NONE);
        for (int kind : new int[] {0, 1, 2, 5}) Due.is("12: kind " + kind, x.call(kind, 0, 1), NONE);
        Due.is("11: 0 minutes", x.ring(0, 1, 0), BAD);
        Due.is("11: 6 minutes", x.ring(0, 1, 6), BAD);
        Due.is("12: 0 minutes", x.call(4, 1, 0), BAD);
        Due.is("12: 6 minutes", x.call(4, 1, 6), BAD);
        Due.is("11: 5 minutes", x.ring(0, 1, 5), 0);
        Due.is("11: through", x.ring(0, 3, 1), 1);
        Due.is("12: out", x.call(3, 0, 5), 2);
        Due.is("12: all", x.call(4, 0, 1), 3);
        for (int k = 0; k < 4; k++) Due.is("13: kind of " + k, x.of(k, 0), k + 1);
        Due.rule(x, "long 999", 0);
        Due.is("11: 21 minutes", x.ring(0, 1, 21), BAD);
        Due.is("12: 21 minutes", x.call(3, 0, 21), BAD);
        Due.is("11: 20 minutes", x.ring(0, 1, 20), 4);
        Due.is("12: 20 minutes", x.call(3, 0, 20), 5);
        Due.rule(x, "long 0", 0);
        Due.is("11: none at all", x.ring(0, 1, 1), BAD);
        Due.is("12: none at all", x.call(4, 0, 1), BAD);
        Due.rule(x, "long 3", 1);
        Due.is("11: not from today on", x.ring(0, 1, 1), BAD);
        Due.pass(x, 100);
        Due.is("11: from today on", x.ring(0, 1, 3), 6);
        Due.is("12: from today on", x.call(4, 0, 4), BAD);
    }

    private static void full() {
        OneWire x = farms();
        for (int k = 0; k < 60; k++) Due.is("11: call " + k, k % 2 == 0 ? x.ring(0, 1, 1) : x.call(3, 0, 1), k);
        Due.is("11: a 61st", x.ring(0, 1, 1), FULL);
        Due.is("12: a 61st", x.call(3, 0, 1), FULL);
        Due.is("11: minutes first", x.ring(0, 1, 6), BAD);
        Due.is("12: minutes first", x.call(3, 0, 6), BAD);
        Due.is("11: count", x.count(2), 60);
    }

    private static void facts() {
        OneWire x = farms();
        x.ring(0, 1, 3);
        x.ring(1, 4, 5);
        x.call(3, 4, 4);
        x.call(4, 2, 2);
        int[][] want = {{1, 0, 50, 3, 1, 0, 80, 0}, {2, 0, 50, 7, 2, 0, 29, 1}, {3, 0, 55, 18, 2, 0, 60, 0},
            {4, 0, 30, 0, 3, 0, 88, 0}};
        for (int call = 0; call < 4; call++) {
            for (int what = 0; what < 8; what++) Due.is("13: of(" + call + ", " + what + ")", x.of(call, what), want[call][what]);
            Due.is("13: what 8", x.of(call, 8), NONE);
            Due.is("13: what -1", x.of(call, -1), NONE);
        }
        for (int wild : WILD) {
            Due.is("13: call " + wild, x.of(wild, 0), NONE);
            Due.is("13: what " + wild, x.of(0, wild), NONE);
        }
        Due.is("13: call 4", x.of(4, 0), NONE);
        // ears are those of the one called
        x.ring(1, 0, 1);
        Due.is("13: loud with ears", x.of(4, 6), 85);
        // farms that come later are on the line
        x.farm(0, 9, 9);
        Due.is("13: holds now", x.of(3, 4), 4);
        Due.is("13: loud to all now", x.of(3, 6), 80);
        Due.is("13: of a ring nothing changes", x.of(0, 6), 80);
        // loud itself when nothing is farther: alone on a line
        x.call(4, 5, 1);
        Due.is("13: alone", x.of(5, 6), 100);
        Due.is("13: alone", x.of(5, 4), 1);
    }

    private static void ranksAndFaint() {
        OneWire x = farms();
        x.ring(0, 1, 1);
        x.call(3, 0, 1);
        x.call(4, 0, 1);
        x.farm(3, 9, 0);
        x.farm(0, 8, 0);
        Due.pass(x, 100);
        x.ring(0, 1, 1);
        Due.rule(x, "first 19 k=4;first 0 k=3", 0);
        Due.is("13: rank by a rule told since, and it may be -1", x.of(2, 2), -1);
        Due.is("13: out", x.of(1, 2), 5);
        Due.is("13: ring", x.of(0, 2), 50);
        Due.rule(x, "first 9 k=1;first 8 k=4", 1);
        Due.is("13: asked on day 0", x.of(0, 2), 50);
        Due.is("13: asked on day 1", x.of(3, 2), 9);
        Due.is("13: all on day 0", x.of(2, 2), -1);
        Due.rule(x, "near 81", 1);
        Due.is("13: below near", x.of(3, 7), 1);
        Due.is("13: near of the day it was asked on", x.of(0, 7), 0);
        Due.rule(x, "near 80", 1);
        Due.is("13: not below", x.of(3, 7), 0);
        Due.rule(x, "near 81", 0);
        Due.is("13: told since", x.of(0, 7), 1);
        Due.is("13: the later day's", x.of(3, 7), 0);
    }

    private static void kinds() {
        OneWire x = farms();
        x.ring(0, 1, 1);
        x.ring(0, 3, 2);
        x.call(3, 0, 3);
        x.call(4, 0, 4);
        int[][] want = {{1, 1, -6, -6, -6}, {2, -6, 2, -6, -6}, {3, -6, 3, 3, -6}, {4, 4, -6, -6, 4}};
        for (int call = 0; call < 4; call++) {
            for (int k = 0; k < 5; k++) Due.is("14: as(" + call + ", " + k + ")", x.as(call, k), want[call][k]);
            Due.is("14: kind 5", x.as(call, 5), NONE);
            Due.is("14: kind -1", x.as(call, -1), NONE);
        }
        for (int wild : WILD) {
            Due.is("14: call " + wild, x.as(wild, 0), NONE);
            Due.is("14: kind " + wild, x.as(0, wild), NONE);
        }
        Due.is("14: call 4", x.as(4, 0), NONE);
    }

    private static void minutes() {
        OneWire x = farms();
        for (int wild : new int[] {0, -1, 201, Integer.MIN_VALUE, Integer.MAX_VALUE}) Due.is("15: " + wild, x.minute(wild), BAD);
        Due.is("15: 1", x.minute(1), 1);
        Due.is("15: 99", x.minute(99), 100);
        for (int k = 1; k < 200; k++) Due.is("15: 200", x.minute(200), 100 + 200 * k);
        Due.is("15: 39,900", x.count(3), 39900);
        Due.is("15: beyond day 400", x.minute(200), 40100 > 40099 ? BAD : 0);
        Due.is("15: day 400", x.minute(199), 40099);
        Due.is("15: no more", x.minute(1), BAD);
        Due.is("15: now", x.count(3), 40099);
    }

    /** One call at a time on a line, and so many cords. */
    private static void free() {
        OneWire x = farms();
        x.farm(3, 0, 0);
        x.ring(0, 1, 2); // 0
        x.ring(1, 2, 1); // 1: waits for the line
        x.ring(3, 5, 2); // 2: takes a cord, lines 1 and 2
        x.call(3, 6, 3); // 3: takes the other one, line 3
        x.ring(4, 0, 1); // 4: waits for line 1 and line 0
        Due.is("15: all wait", x.count(4), 5);
        Due.is("16: nobody yet", x.board(0, 0), NONE);
        Due.is("16: no cord yet", x.board(0, 1), 0);
        x.minute(1);
        int[] line = {0, 2, 2, 3};
        for (int k = 0; k < 4; k++) Due.is("16: line " + k, x.board(k, 0), line[k]);
        Due.is("16: cords", x.board(0, 1), 2);
        Due.is("16: cords of no line", x.board(99, 1), 2);
        Due.is("16: cords of no line", x.board(-1, 1), 2);
        Due.is("16: line 4", x.board(4, 0), NONE);
        Due.is("16: line -1", x.board(-1, 0), NONE);
        Due.is("16: what 2", x.board(0, 2), NONE);
        Due.is("16: what -1", x.board(0, -1), NONE);
        Due.is("15: on", x.count(5), 3);
        Due.is("15: wait", x.count(4), 2);
        x.minute(1);
        Due.is("15: its minutes are had when the next one goes by", x.of(0, 1), 1);
        x.minute(1);
        Due.is("15: ended", x.of(0, 1), 2);
        Due.is("15: the next one", x.of(1, 1), 1);
        Due.is("13: waited 2", x.of(1, 5), 2);
        Due.is("13: waits 3 so far", x.of(4, 5), 3);
        Due.is("16: line 1 is free", x.board(1, 0), NONE);
        x.minute(1);
        Due.is("15: both lines and a cord", x.of(4, 1), 1);
        Due.is("13: waited 3", x.of(4, 5), 3);
        Due.is("16: line 0", x.board(0, 0), 4);
        Due.is("16: line 1", x.board(1, 0), 4);
        x.minute(200);
        Due.is("15: none is on", x.count(5), 0);
        Due.is("15: none is lost", x.count(6), 0);
        Due.is("13: waited, still", x.of(4, 5), 3);
    }

    private static void cords() {
        OneWire x = farms();
        Due.rule(x, "cords 1", 0);
        Due.rule(x, "cords 0", 1);
        x.call(3, 5, 2); // 0
        x.call(3, 3, 2); // 1
        x.ring(1, 2, 1); // 2: needs no cord
        x.minute(1);
        Due.is("15: the cord", x.of(0, 1), 1);
        Due.is("15: no cord", x.of(1, 1), 0);
        Due.is("15: this one needs none", x.of(2, 1), 1);
        x.minute(2);
        Due.is("15: now it has it", x.of(1, 1), 1);
        Due.pass(x, 97);
        x.call(3, 0, 1); // 3
        x.call(4, 0, 1); // 4
        x.minute(30);
        Due.is("15: not lost yet", x.of(3, 1), 0);
        Due.is("15: to all without a cord", x.of(4, 1), 2);
        x.minute(1);
        Due.is("15: lost after 30 minutes", x.of(3, 1), 3);
        Due.is("13: waited 31", x.of(3, 5), 31);
        x.minute(5);
        Due.is("13: it was never on", x.of(3, 5), 36);
        Due.is("15: lost", x.count(6), 1);
    }

    private static void twoCords() {
        OneWire x = farms();
        x.farm(3, 0, 0);
        x.call(3, 0, 1);
        x.call(3, 3, 1);
        x.call(3, 5, 2);
        x.ring(6, 5, 1);
        x.minute(1);
        Due.is("15: two cords", x.board(0, 1), 2);
        Due.is("15: none for the third", x.of(2, 1), 0);
        Due.is("15: nor was one for a through", x.of(3, 1), 1);
        Due.is("15: but it was asked for less", x.of(1, 1), 0);
        x.minute(1);
        Due.is("15: both are free", x.board(0, 1), 2);
        Due.is("15: the second one", x.of(1, 1), 1);
        Due.is("15: the third one", x.of(2, 1), 1);
    }

    /** A call that can be on in the very minute in which it would be lost is on. */
    private static void lastMinute() {
        OneWire x = farms();
        Due.rule(x, "cords 0", 0);
        Due.rule(x, "cords 1", 1);
        Due.pass(x, 70);
        x.call(3, 0, 1);
        x.call(3, 3, 1);
        x.minute(30);
        Due.is("15: both wait", x.count(4), 2);
        x.minute(1);
        Due.is("15: the first one is on", x.of(0, 1), 1);
        Due.is("15: the other one lost", x.of(1, 1), 3);
        Due.is("13: waited 30", x.of(0, 5), 30);
    }

    private static void order() {
        OneWire x = farms();
        x.ring(0, 1, 1); // 0: 50
        x.ring(1, 0, 1); // 1: 50
        x.call(3, 2, 1); // 2: 55
        x.call(4, 0, 1); // 3: 30
        Due.rule(x, "first 29 f=2&k=1", 0);
        x.ring(2, 1, 1); // 4: 29
        int[] on = {4, 3, 0, 1, 2};
        for (int k = 0; k < 5; k++) {
            Due.is("15: now " + k, x.minute(1), k + 1);
            Due.is("15: by ranks, " + k, x.board(0, 0), on[k]);
        }
        // a through that can't be on yet keeps no line
        OneWire y = farms();
        y.ring(3, 4, 5); // 0
        y.minute(1);
        Due.rule(y, "first 1 k=2", 0);
        y.ring(0, 3, 1); // 1: the least rank, but line 1 is taken
        y.ring(0, 1, 1); // 2
        y.minute(1);
        Due.is("15: it waits", y.of(1, 1), 0);
        Due.is("15: and keeps nobody", y.of(2, 1), 1);
    }

    private static int stateBehind(int kind, int from, int to, int line, int wire) {
        OneWire x = farms();
        x.down(line, wire, true);
        if (kind > 2) x.call(kind, from, 1);
        else x.ring(from, to, 1);
        x.minute(1);
        return x.of(0, 1);
    }

    private static void lost() {
        Due.is("15: a ring, its wire", stateBehind(1, 0, 1, 0, 3), 3);
        Due.is("15: a ring, its last wire", stateBehind(1, 0, 1, 0, 7), 3);
        Due.is("15: a ring, wire ahead", stateBehind(1, 0, 1, 0, 2), 1);
        Due.is("15: a ring, wire behind", stateBehind(1, 0, 1, 0, 8), 1);
        Due.is("15: a ring back", stateBehind(1, 1, 0, 0, 3), 3);
        Due.is("15: a ring back", stateBehind(1, 1, 0, 0, 2), 1);
        Due.is("15: a through, its way", stateBehind(2, 0, 4, 0, 0), 3);
        Due.is("15: a through, its way", stateBehind(2, 0, 4, 0, 2), 3);
        Due.is("15: a through, beyond", stateBehind(2, 0, 4, 0, 3), 1);
        Due.is("15: a through, the other's way", stateBehind(2, 0, 4, 1, 9), 3);
        Due.is("15: a through, the other's way", stateBehind(2, 0, 4, 1, 0), 3);
        Due.is("15: a through, beyond", stateBehind(2, 0, 3, 1, 1), 1);
        Due.is("15: an out", stateBehind(3, 0, 12, 0, 2), 3);
        Due.is("15: an out, beyond", stateBehind(3, 0, 12, 0, 3), 1);
        Due.is("15: an all", stateBehind(4, 0, 12, 0, 1), 3);
        Due.is("15: an all, beyond", stateBehind(4, 0, 12, 0, 3), 1);
        Due.is("15: another line", stateBehind(4, 0, 12, 1, 0), 1);
        OneWire x = farms();
        x.ring(0, 1, 3);
        x.ring(2, 1, 1);
        x.minute(1);
        x.down(0, 6, true);
        x.minute(1);
        Due.is("15: what is on stays on", x.of(0, 1), 1);
        Due.is("15: what waits is lost, though the line isn't free", x.of(1, 1), 3);
    }

    private static void listeners() {
        OneWire x = farms();
        x.farm(0, 0, 0); // 6
        x.farm(1, 5, 0); // 7
        x.ring(0, 1, 3); // 0: line 0
        Due.is("17: it waits", x.listen(2, 0), STATE);
        Due.is("18: it waits", x.heard(0), 0);
        x.minute(1);
        Due.is("18: both", x.heard(0), 3);
        for (int wild : WILD) {
            Due.is("17: farm " + wild, x.listen(wild, 0), NONE);
            Due.is("17: call " + wild, x.listen(2, wild), NONE);
            Due.is("18: call " + wild, x.heard(wild), NONE);
        }
        Due.is("17: no farm 8", x.listen(8, 0), NONE);
        Due.is("17: no call 1", x.listen(2, 1), NONE);
        Due.is("18: no call 1", x.heard(1), NONE);
        Due.is("17: the caller", x.listen(0, 0), STATE);
        Due.is("17: the called", x.listen(1, 0), STATE);
        Due.is("17: another line", x.listen(3, 0), STATE);
        Due.is("17: first", x.listen(2, 0), 1);
        Due.is("17: again", x.listen(2, 0), STATE);
        Due.is("17: second", x.listen(6, 0), 2);
        Due.is("13: less loud", x.of(0, 6), 66);
        Due.is("18: all four", x.heard(0), 71);
        x.minute(3);
        Due.is("17: it has ended", x.listen(2, 0), STATE);
        Due.is("18: still", x.heard(0), 71);
        x.ring(2, 4, 1); // 1: lines 0 and 1
        x.call(3, 5, 1); // 2: line 2
        x.minute(1);
        Due.is("17: on its line", x.listen(0, 1), 1);
        Due.is("17: on the other's", x.listen(3, 1), 2);
        Due.is("17: on the other's", x.listen(7, 1), 3);
        Due.is("17: on none", x.listen(5, 1), STATE);
        Due.is("17: the called", x.listen(4, 1), STATE);
        Due.is("18: through", x.heard(1), 1 << 2 | 1 << 4 | 1 << 0 | 1 << 3 | 1 << 7);
        Due.is("13: 15 posts, three more ears, one of hers", x.of(1, 6), 100 - 60 - 21 + 1);
        Due.is("18: out", x.heard(2), 32);
        Due.is("17: the caller", x.listen(5, 2), STATE);
        x.minute(1);
        x.call(4, 0, 1); // 3
        x.ring(3, 4, 1); // 4
        x.down(1, 9, true);
        x.minute(1);
        Due.is("17: in it already", x.listen(2, 3), STATE);
        Due.is("18: all on the line", x.heard(3), 71);
        x.farm(0, 9, 0); // 8
        Due.is("18: all on the line now", x.heard(3), 71 | 256);
        Due.is("17: who came is in it", x.listen(8, 3), STATE);
        Due.is("15: lost", x.of(4, 1), 3);
        Due.is("17: lost", x.listen(7, 4), STATE);
        Due.is("18: lost", x.heard(4), 0);
    }

    private static void quiet() {
        OneWire x = new OneWire();
        for (int k = 0; k < 12; k++) x.farm(k < 9 ? 0 : 1, 9, 0);
        x.ring(0, 9, 5);
        x.minute(1);
        for (int k = 1; k < 9; k++) Due.is("17: takes up", x.listen(k, 0), k);
        Due.is("13: 0 at least", x.of(0, 6), 0);
        Due.is("13: faint", x.of(0, 7), 1);
        Due.rule(x, "near 0", 0);
        Due.is("13: not below 0", x.of(0, 7), 0);
    }

    public static void main(String[] args) {
        asked();
        full();
        facts();
        ranksAndFaint();
        kinds();
        minutes();
        free();
        cords();
        twoCords();
        lastMinute();
        order();
        lost();
        listeners();
        quiet();
        Due.end();
    }
}
