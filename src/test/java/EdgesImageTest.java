/** Boundary cases of promises 34 to 36: the image, what is counted. Each remark is the document's sentence. */
public final class EdgesImageTest {
    private static final int NONE = Edges.NONE, BAD = Edges.BAD, STATE = Edges.STATE, FULL = Edges.FULL;
    private static final int MIN = Edges.MIN, MAX = Edges.MAX;

    private static OneWire farms() {
        OneWire x = new OneWire();
        x.farm(0, 0, 0);
        x.farm(0, 5, 0);
        x.farm(1, 0, 0);
        return x;
    }

    // ---- promise 34

    // THE IMAGE is taken: NOW
    static void p34_now() {
        OneWire x = new OneWire();
        Due.is("at first", x.image(), 0);
        Due.pass(x, 40099);
        Due.is("at last", x.image(), 40099);
    }

    // of a new object
    static void p34_ofNothing() {
        OneWire x = new OneWire();
        x.image();
        x.farm(0, 0, 0);
        Due.pass(x, 150);
        Due.is("now", x.undo(), 0);
        for (int what = 0; what <= 8; what++) Due.is("count " + what, x.count(what), 0);
        Due.is("the first one", x.farm(0, 0, 0), 0);
    }

    // THE IMAGE is one: a later one is in place of that ahead
    static void p34_laterInPlaceOfThatAhead() {
        OneWire x = farms();
        x.image();
        x.farm(0, 0, 0);
        x.minute(1);
        Due.is("later", x.image(), 1);
        x.farm(0, 0, 0);
        x.minute(1);
        Due.is("now", x.undo(), 1);
        Due.is("farms", x.count(0), 4);
        Due.is("still now", x.undo(), 1);
        Due.is("farms", x.count(0), 4);
    }

    // what comes behind THE IMAGE is not in it
    static void p34_whatComesBehind() {
        OneWire x = farms();
        x.code(0, 2, 2);
        x.image();
        Due.is("that of the image", x.code(0, 3, 3), 34);
        x.undo();
        Due.is("again", x.code(0, 4, 4), 34);
        x.undo();
        Due.is("and again", x.code(0, 0, 0), 34);
    }

    // ---- promise 35

    // STATE: there is none
    static void p35_thereIsNone() {
        OneWire x = farms();
        x.minute(1);
        Due.is("none", x.undo(), STATE);
        Due.is("now", x.count(3), 1);
        Due.is("farms", x.count(0), 3);
        Due.is("still none", x.undo(), STATE);
        x.image();
        Due.is("there is", x.undo(), 1);
    }

    // of another object
    static void p35_ofAnotherObject() {
        OneWire x = farms(), y = farms();
        x.image();
        y.minute(1);
        Due.is("none of its own", y.undo(), STATE);
        x.farm(3, 3, 3);
        y.image();
        Due.is("its own", x.undo(), 0);
        Due.is("its own farms", x.count(0), 3);
        Due.is("its own", y.undo(), 1);
    }

    // All is as THE IMAGE: (but not THE IMAGE): it stays
    static void p35_theImageStays() {
        OneWire x = farms();
        x.image();
        for (int k = 0; k < 5; k++) {
            x.farm(0, 0, 0);
            x.minute(7);
            Due.is("now", x.undo(), 0);
            Due.is("farms", x.count(0), 3);
        }
    }

    static void p35_nothingChanged() {
        OneWire x = farms();
        x.minute(3);
        x.image();
        Due.is("at once", x.undo(), 3);
        Due.is("farms", x.count(0), 3);
    }

    // NOW: also back from the last MINUTE
    static void p35_backFromTheLastMinute() {
        OneWire x = farms();
        x.image();
        Due.pass(x, 40099);
        Due.is("no more", x.minute(1), BAD);
        Due.is("now", x.undo(), 0);
        Due.is("go on", x.minute(200), 200);
        Due.is("today", x.behind(0, 2), 0);
        Due.is("not tomorrow", x.behind(0, 3), BAD);
    }

    // THE IMAGE: all that there is: farms
    static void p35_farms() {
        OneWire x = farms();
        x.image();
        for (int k = 3; k < 12; k++) x.farm(2, 9, 9);
        Due.is("full", x.farm(0, 0, 0), FULL);
        x.undo();
        Due.is("the fourth", x.farm(0, 4, 2), 3);
        x.ring(0, 3, 1);
        Due.is("its line and post and ears", x.of(0, 6), 86);
    }

    // codes
    static void p35_codes() {
        OneWire x = farms();
        x.code(1, 4, 15);
        x.image();
        x.code(0, 1, 1);
        x.code(1, 0, 0);
        x.farm(0, 0, 0);
        x.code(3, 2, 2);
        x.undo();
        x.farm(0, 0, 0);
        Due.is("none", x.code(0, 0, 0), 0);
        Due.is("four signs", x.code(1, 0, 0), 79);
        Due.is("of one that came anew: none", x.code(3, 0, 0), 0);
    }

    // the DAY on which a FARM came
    static void p35_daysOnWhichTheyCame() {
        OneWire x = farms();
        x.image();
        Due.pass(x, 1000);
        x.farm(0, 0, 0);
        x.undo();
        x.farm(0, 0, 0);
        Due.pass(x, 3000);
        Due.is("day 30", x.behind(3, 30), 16);
    }

    // THE TAPE, too
    static void p35_tape() {
        OneWire x = farms();
        Due.feed(x, "dues 7");
        x.image();
        Due.feed(x, "7;near 9");
        x.undo();
        Due.is("bytes", x.count(7), 6);
        Due.is("it reads", x.text(0), 0);
        Due.is("7", x.force(1, 0, 0), 7);
        x.undo();
        Due.is("it is there again", x.count(7), 6);
        Due.rule(x, "8;near 5", 0);
        Due.is("and one more byte", x.force(1, 0, 0), 78);
        x.undo();
        Due.rule(x, "x", 0);
        x.undo();
        Due.is("and after a fault", x.text(0), 0);
    }

    static void p35_tapeOtherwiseFed() {
        OneWire x = farms();
        Due.feed(x, "dues 7");
        x.image();
        x.text(0);
        Due.feed(x, "work 123456");
        x.undo();
        Due.is("it reads", x.text(0), 0);
        Due.is("dues", x.force(1, 0, 0), 7);
        Due.is("work", x.force(2, 0, 0), 2);
    }

    // rules: how many, their days, and what they say
    static void p35_rules() {
        OneWire x = farms();
        x.ring(0, 1, 1);
        Due.rule(x, "tell k=1&f=0;first 9 g=1;dues 5", 3);
        x.image();
        for (int k = 1; k < 10; k++) Due.rule(x, "tell !k=1;first 8 k=1;dues 4;near 3", 0);
        Due.is("full", x.text(0), FULL);
        x.undo();
        Due.is("rules", x.count(1), 1);
        Due.is("tell", x.force(5, 0, 3), 1);
        Due.is("first", x.why(0, 0, 3), 1);
        Due.is("dues", x.force(1, 0, 3), 5);
        Due.is("not on day 2", x.why(1, 0, 2), -5);
        Due.is("near", x.why(6, 0, 400), -5);
        Due.is("the next one", Due.rule(x, "near 1", 0), 1);
        OneWire y = farms();
        y.ring(0, 1, 1);
        y.image();
        Due.rule(y, "tell k=1|k=2;first 8 k=1;dues 4;near 3", 0);
        y.undo();
        Due.rule(y, "tell k=3", 1);
        Due.is("another one in its place", y.force(5, 0, 1), 0);
        Due.is("from another day on", y.why(5, 0, 0), -5);
        Due.is("no dues", y.why(1, 0, 1), -5);
    }

    static void p35_rulesOfTheImage() {
        OneWire x = farms();
        x.ring(0, 1, 1);
        x.image();
        x.undo();
        for (int k = 0; k < 10; k++) Due.rule(x, "tell k=1&f=" + k % 2 + ";first " + k + " k=1", k);
        x.image();
        Due.feed(x, "tell k=3;first 77 k=1|k=2|k=3");
        Due.is("tried", x.tried(0, 0), 77);
        x.undo();
        for (int k = 0; k < 10; k++) {
            Due.is("tell " + k, x.force(5, 0, k), 1 - k % 2);
            Due.is("first " + k, x.force(0, 0, k), k);
        }
    }

    // calls: how many, their states, when they were asked and on, their minutes
    static void p35_calls() {
        OneWire x = farms();
        x.ring(0, 1, 2);
        x.ring(1, 0, 2);
        x.minute(1);
        x.image();
        x.minute(3);
        Due.is("ended", x.of(0, 1), 2);
        Due.is("on", x.of(1, 1), 1);
        x.ring(2, 0, 5);
        x.undo();
        Due.is("calls", x.count(2), 2);
        Due.is("on", x.of(0, 1), 1);
        Due.is("waiting", x.of(1, 1), 0);
        Due.is("waited so far", x.of(1, 5), 1);
        x.minute(2);
        Due.is("ended", x.of(0, 1), 2);
        Due.is("waited", x.of(1, 5), 2);
        Due.is("another one", x.call(4, 1, 3), 2);
        Due.is("an all", x.of(2, 0), 4);
        Due.is("its minutes", x.as(2, 0), 3);
        Due.is("it has not waited", x.of(2, 5), 0);
    }

    static void p35_lostCalls() {
        OneWire x = farms();
        x.ring(0, 1, 1);
        x.image();
        x.down(0, 1, true);
        x.minute(1);
        Due.is("lost", x.count(6), 1);
        x.undo();
        Due.is("none lost", x.count(6), 0);
        x.minute(1);
        Due.is("on, the wire is up", x.of(0, 1), 1);
    }

    // LISTENERS
    static void p35_listeners() {
        OneWire x = farms();
        for (int k = 3; k < 6; k++) x.farm(0, 0, 0);
        x.ring(0, 1, 5);
        x.minute(1);
        x.listen(3, 0);
        x.image();
        x.listen(4, 0);
        x.undo();
        Due.is("one", x.heard(0), 1 | 2 | 8);
        Due.is("it took up", x.listen(3, 0), STATE);
        Due.is("it did not", x.listen(4, 0), 2);
        x.undo();
        x.minute(5);
        x.ring(0, 1, 5);
        x.minute(1);
        x.listen(5, 1);
        x.undo();
        x.ring(1, 0, 5);
        x.minute(6);
        Due.is("nobody took up the one in its place", x.heard(1), 1 | 2);
    }

    // wires that are DOWN
    static void p35_wires() {
        OneWire x = farms();
        x.down(3, 9, true);
        x.image();
        x.down(3, 9, false);
        x.down(0, 0, true);
        x.undo();
        Due.is("down", x.down(3, 9, true), 1);
        Due.is("up", x.down(0, 0, true), 0);
    }

    // TOLD RINGS, and WIRES that may be DOWN
    static void p35_toldAndMaybe() {
        OneWire x = farms();
        x.told(0, 12, false);
        x.maybe(0, 0);
        x.image();
        x.told(1, 0, false);
        x.maybe(0, 3);
        x.maybe(0, 1);
        Due.is("both", x.storm(0), 3);
        x.undo();
        Due.is("the one", x.storm(0), 1);
        Due.is("alone", x.storm(1), 1);
        Due.is("the second wire", x.maybe(0, 1), 2);
        Due.is("told the second time", x.told(1, 0, true), 2);
        Due.is("the one", x.storm(0), 1);
        for (int k = 2; k < 20; k++) x.told(0, 12, false);
        for (int k = 2; k < 10; k++) x.maybe(1, k);
        Due.is("full", x.told(0, 12, false) + x.maybe(2, 0), 2 * FULL);
        x.undo();
        Due.is("not full", x.told(1, 12, true), 2);
        Due.is("not full", x.maybe(2, 0), 2);
        Due.is("could and couldn't", x.storm(0), -5);
    }

    static void p35_couldOrCouldNot() {
        OneWire x = farms();
        x.maybe(0, 0);
        x.image();
        x.told(0, 12, true);
        Due.is("it could", x.storm(0), 0);
        x.undo();
        x.told(0, 12, false);
        Due.is("it couldn't", x.storm(0), 1);
        x.image();
        x.undo();
        Due.is("still", x.storm(0), 1);
    }

    // what is PAID
    static void p35_paid() {
        OneWire x = farms();
        x.pay(0, 0, 5);
        x.image();
        for (int k = 1; k < 60; k++) x.pay(1, 1, 2);
        Due.is("full", x.pay(0, 0, 1), FULL);
        x.undo();
        Due.is("behind", x.behind(0, 0), -5);
        Due.is("behind", x.behind(1, 0), 0);
        Due.pass(x, 100);
        Due.is("more", x.pay(0, 0, 1), 6);
        Due.is("on day 0", x.behind(0, 0), -5);
        Due.is("on day 1", x.behind(0, 1), -6);
    }

    // QUARRELS
    static void p35_quarrels() {
        OneWire x = farms();
        x.quarrel(0, 1);
        x.image();
        x.quarrel(1, 2);
        x.farm(0, 0, 0);
        x.quarrel(3, 0);
        x.undo();
        Due.is("there was one", x.quarrel(1, 0), 0);
        Due.is("there was none", x.quarrel(2, 1), 1);
        x.farm(0, 0, 0);
        Due.is("one that came anew has none", x.quarrel(0, 3), 1);
    }

    // MEETINGS, and which are NOUGHT
    static void p35_meetings() {
        OneWire x = farms();
        x.vote(7, 3, -1);
        x.vote(7, 3, 0);
        x.nought(1);
        x.image();
        x.nought(0);
        for (int k = 2; k < 10; k++) x.vote(7, 3, -1);
        Due.is("full", x.vote(7, 3, -1), FULL);
        x.nought(2);
        x.undo();
        Due.is("the first counts", x.counting(), 1);
        Due.is("another one", x.vote(6, 2, 0), 2);
        Due.is("it counts", x.counting(), 5);
        Due.is("it was nought", x.nought(1), 0);
        Due.is("it was not", x.nought(0), 1);
    }

    // ---- promise 36

    // NONE
    static void p36_whatTooSmallOrTooLarge() {
        OneWire x = farms();
        for (int what : new int[] {-1, 9, MIN, MAX}) Due.is("what " + what, x.count(what), NONE);
    }

    // 0 FARMS, 1 RULES, 2 CALLS, 3 NOW, 4 CALLS that WAIT, 5 that are ON, 6 LOST, 7 bytes of THE TAPE, 8 MEETINGS
    static void p36_eachByItself() {
        OneWire x = farms();
        for (int k = 0; k < 2; k++) Due.rule(x, "near 1", 0);
        x.vote(7, 3, -1);
        for (int k = 0; k < 4; k++) x.ring(0, 1, 3);
        x.ring(2, 0, 1);
        x.call(4, 2, 1);
        x.minute(1);
        x.down(1, 0, true);
        x.minute(4);
        Due.feed(x, "work 7777");
        int[] want = {3, 2, 6, 5, 2, 1, 1, 9, 1};
        for (int what = 0; what <= 8; what++) Due.is("what " + what, x.count(what), want[what]);
    }

    static void p36_mostOfEach() {
        OneWire x = new OneWire();
        for (int k = 0; k < 12; k++) x.farm(k % 4, k % 10, 0);
        for (int k = 0; k < 10; k++) Due.rule(x, "near 1", 0);
        for (int k = 0; k < 15; k++) x.feed(0, 8);
        for (int k = 0; k < 60; k++) x.call(4, k % 4, 1);
        for (int k = 0; k < 10; k++) x.vote(1, 0, -1);
        int[] want = {12, 10, 60, 0, 60, 0, 0, 120, 10};
        for (int what = 0; what <= 8; what++) Due.is("what " + what, x.count(what), want[what]);
        x.minute(1);
        Due.is("on", x.count(5), 4);
        Due.is("waiting", x.count(4), 56);
        for (int line = 0; line < 4; line++) x.down(line, 0, true);
        x.minute(1);
        Due.is("lost", x.count(6), 56);
        Due.is("none is on", x.count(5), 0);
        Due.is("none waits", x.count(4), 0);
        Due.is("calls", x.count(2), 60);
    }

    static void p36_lastMinute() {
        OneWire x = farms();
        Due.pass(x, 40099);
        Due.is("now", x.count(3), 40099);
    }

    public static void main(String[] args) {
        Edges.run(EdgesImageTest.class, 34, 36);
    }
}
