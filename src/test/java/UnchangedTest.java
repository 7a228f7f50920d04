import java.util.ArrayList;
import java.util.HashMap;
import java.util.List;
import java.util.Map;
import java.util.function.Consumer;
import java.util.function.Supplier;
import java.util.function.ToIntFunction;

/** What changes nothing: refusals (Terms, ==== 6: "They change nothing"), what is only asked, what is undone. */
public final class UnchangedTest {
    private static final int NONE = Edges.NONE, BAD = Edges.BAD, STATE = Edges.STATE, FULL = Edges.FULL;
    private static final int MIN = Edges.MIN, MAX = Edges.MAX;
    private static final List<Consumer<Log>> PROBES = new ArrayList<>();
    private static final Map<String, String> USUAL = new HashMap<>();

    /** An object and what it answered; no more than the 512 calls that an object is used for. */
    private static final class Log {
        final OneWire x;
        final StringBuilder said = new StringBuilder();
        int calls;

        Log(OneWire x, int calls) {
            this.x = x;
            this.calls = calls;
        }

        void is(int answer) {
            said.append(answer).append(' ');
            calls++;
        }
    }

    /** Of all that there is something; and an image that is otherwise. */
    private static OneWire some() {
        OneWire x = new OneWire();
        for (int k = 0; k < 7; k++) x.farm(k % 3, k, k);
        x.code(0, 2, 1);
        x.code(3, 3, 1);
        Due.rule(x, "dues 3;work 0", 0);
        Due.feed(x, "near 3");
        x.ring(0, 6, 5);
        x.down(3, 3, true);
        x.told(1, 12, false);
        x.maybe(1, 1);
        x.pay(1, 0, 2);
        x.quarrel(1, 2);
        x.vote(63, 5, -1);
        x.image();
        x.text(0);
        x.farm(0, 9, 0);
        Due.rule(x, "first 40 k=1&f=0;tell k=1;long 9;near 70", 0);
        Due.feed(x, "dues 1");
        x.ring(1, 4, 3);
        x.call(3, 2, 9);
        x.call(4, 4, 1);
        x.ring(0, 3, 9);
        x.minute(1);
        x.listen(3, 0);
        x.down(2, 1, true);
        x.ring(2, 5, 1);
        x.minute(1);
        x.told(0, 12, false);
        x.maybe(0, 0);
        x.pay(2, 1, 4);
        x.quarrel(0, 1);
        x.vote(127, 4, 0);
        x.nought(0);
        return x;
    }

    /** Full of all; and no image. */
    private static OneWire full() {
        OneWire x = new OneWire();
        for (int k = 0; k < 12; k++) x.farm(k % 3, k % 10, k % 10);
        for (int k = 0; k < 10; k++) Due.rule(x, "near " + k, 0);
        for (int k = 0; k < 15; k++) x.feed(0x2020202020202020L, 8);
        for (int k = 0; k < 60; k++) x.ring(k % 12, (k + 1) % 12, 1);
        for (int k = 0; k < 20; k++) x.told(k % 12, 12, true);
        for (int k = 0; k < 10; k++) x.maybe(k % 4, k);
        for (int k = 0; k < 60; k++) x.pay(k % 12, k % 2, 1);
        for (int k = 0; k < 10; k++) x.vote(4095, 7, -1);
        return x;
    }

    private static void probes() {
        for (int what = 0; what < 8; what += 2) {
            int first = what;
            PROBES.add(log -> {
                for (int call = 0; call < 61; call++) for (int k = first; k < first + 2; k++) log.is(log.x.of(call, k));
            });
        }
        PROBES.add(log -> {
            for (int k = 0; k < 9; k++) log.is(log.x.count(k));
            for (int k = 0; k < 12; k++) log.is(log.x.code(k, 0, 0));
            for (int k = 0; k < 40; k++) log.is(log.x.down(k / 10, k % 10, false));
            for (int a = 0; a < 12; a++) for (int b = 0; b < a; b++) log.is(log.x.quarrel(a, b));
            log.is(log.x.undo());
        });
        PROBES.add(log -> {
            for (int line = 0; line < 4; line++) log.is(log.x.mistakes(line));
            for (int line = 0; line < 4; line++) for (int n = 1; n < 4; n++) log.is(log.x.best(line, n, -1));
            for (int n = 1; n < 8; n++) for (int i = -1; i < n; i++) log.is(log.x.divide(n, 3, i));
            for (int line = -1; line < 4; line++) log.is(log.x.board(line, line < 0 ? 1 : 0));
            for (int call = 0; call < 61; call++) log.is(log.x.heard(call));
        });
        PROBES.add(log -> {
            for (int k = 0; k < 2; k++) log.is(log.x.storm(k));
            log.is(log.x.told(0, 1, true));
            for (int k = 0; k < 40; k++) log.is(log.x.maybe(k / 10, k % 10));
            for (int k = 0; k < 2; k++) log.is(log.x.storm(k));
            log.is(log.x.counting());
            log.is(log.x.vote(1, 1, -1));
            for (int k = 0; k < 11; k++) log.is(log.x.nought(k));
            log.is(log.x.counting());
        });
        PROBES.add(log -> {
            for (int k = 0; k < 12; k++) log.is(log.x.behind(k, 0));
            for (int k = 0; k < 12; k++) for (int what = 0; what < 2; what++) log.is(log.x.pay(k, what, 1));
            for (int word = 0; word < 7; word++) for (int call = 0; call < 7; call++) log.is(log.x.why(word, call, 400));
            log.is(log.x.text(0));
            for (int word = 0; word < 7; word++) log.is(log.x.force(word, 0, 400));
        });
        PROBES.add(log -> {
            for (int farm = 0; farm < 13; farm++) for (int call = 0; call < 7; call++) log.is(log.x.listen(farm, call));
            for (int k = 0; k < 8; k++) {
                log.is(log.x.minute(1));
                for (int call = 0; call < 7; call++) log.is(log.x.of(call, 1));
            }
        });
        PROBES.add(log -> {
            log.is(log.x.feed(0, 1));
            log.is(log.x.farm(3, 3, 3));
            log.is(log.x.ring(0, 1, 9));
            log.is(log.x.ring(0, 1, 5));
            for (int k = 0; k < 16; k++) log.is(log.x.minute(200));
            for (int farm = 0; farm < 12; farm++) log.is(log.x.since(farm));
            for (int farm = 0; farm < 12; farm++) log.is(log.x.town(farm, 0, 400));
            for (int farm = 0; farm < 12; farm++) log.is(log.x.behind(farm, 32));
        });
    }

    /** What an object answers from here on: each probe has one of its own, undone ahead of it or not. */
    private static String seen(Supplier<OneWire> made, ToIntFunction<OneWire> ahead) {
        StringBuilder said = new StringBuilder();
        for (Consumer<Log> probe : PROBES) {
            for (int undone = 0; undone < 2; undone++) {
                OneWire x = made.get();
                ahead.applyAsInt(x);
                Log log = new Log(x, 260);
                if (undone == 1) log.is(x.undo());
                probe.accept(log);
                if (log.calls > 512) Due.is("calls of one object", log.calls, 512);
                said.append(log.said).append('\n');
            }
        }
        return said.toString();
    }

    /** A call that is answered so, and changes nothing. */
    private static void call(String name, Supplier<OneWire> made, int want, ToIntFunction<OneWire> call) {
        Due.is(name, call.applyAsInt(made.get()), want);
        String usual = USUAL.computeIfAbsent(made.get().count(0) + "", k -> seen(made, x -> 0));
        Due.is(name + " changes nothing", seen(made, call).equals(usual) ? 1 : 0, 1);
    }

    private static void some(String name, int want, ToIntFunction<OneWire> call) {
        call(name, UnchangedTest::some, want, call);
    }

    private static void full(String name, int want, ToIntFunction<OneWire> call) {
        call(name, UnchangedTest::full, want, call);
    }

    private static void ofFarms() {
        some("2: line", NONE, x -> x.farm(4, 0, 0));
        some("2: post", NONE, x -> x.farm(0, -1, 0));
        some("2: ears", BAD, x -> x.farm(0, 0, 10));
        full("2: full", FULL, x -> x.farm(0, 0, 0));
        some("3: farm", NONE, x -> x.code(8, 1, 0));
        some("3: signs", BAD, x -> x.code(0, 5, 0));
        some("3: bits", BAD, x -> x.code(0, 1, 2));
        some("4: farm", NONE, x -> x.like(0, 8));
        some("4: one", BAD, x -> x.like(0, 0));
        some("4: asked", 0, x -> x.like(0, 1));
        some("5: line", NONE, x -> x.mistakes(4));
        some("5: asked", 2, x -> x.mistakes(0));
        some("6: line", NONE, x -> x.best(4, 1, 0));
        some("6: i", NONE, x -> x.best(0, 3, 4));
        some("6: n", BAD, x -> x.best(0, 4, 0));
        some("6: not so many", -5, x -> x.best(0, 1, 0));
        some("6: asked", 49, x -> x.best(0, 3, 2));
    }

    private static void ofRules() {
        some("7: n 0", BAD, x -> x.feed(-1, 0));
        some("7: n 9", BAD, x -> x.feed(-1, 9));
        full("7: full", FULL, x -> x.feed(-1, 1));
        some("8: day -1", BAD, x -> x.text(-1));
        some("8: day 401", BAD, x -> x.text(401));
        full("8: full", FULL, x -> x.text(0));
        some("9: word", NONE, x -> x.force(7, 0, 0));
        some("9: call", NONE, x -> x.force(0, 6, 0));
        some("9: day", BAD, x -> x.force(1, 0, 401));
        some("9: asked", 40, x -> x.force(0, 0, 0));
        some("10: word", NONE, x -> x.why(-1, 0, 0));
        some("10: call", NONE, x -> x.why(5, -1, 0));
        some("10: day", BAD, x -> x.why(1, 0, -1));
        some("10: none", -5, x -> x.why(4, 0, 0));
        some("10: asked", 201, x -> x.why(5, 5, 400));
    }

    private static void ofCalls() {
        some("11: from", NONE, x -> x.ring(8, 0, 1));
        some("11: to", NONE, x -> x.ring(0, 12, 1));
        some("11: one farm", BAD, x -> x.ring(1, 1, 1));
        some("11: minutes 0", BAD, x -> x.ring(0, 1, 0));
        some("11: minutes 10", BAD, x -> x.ring(0, 1, 10));
        full("11: full", FULL, x -> x.ring(0, 1, 1));
        some("12: farm", NONE, x -> x.call(3, 8, 1));
        some("12: kind", NONE, x -> x.call(2, 0, 1));
        some("12: minutes", BAD, x -> x.call(4, 0, MAX));
        full("12: full", FULL, x -> x.call(4, 0, 1));
        some("13: call", NONE, x -> x.of(6, 0));
        some("13: what", NONE, x -> x.of(0, 8));
        some("13: asked", 2, x -> x.of(2, 4));
        some("14: call", NONE, x -> x.as(6, 0));
        some("14: k", NONE, x -> x.as(0, 5));
        some("14: another kind", -6, x -> x.as(0, 2));
        some("14: asked", 9, x -> x.as(2, 2));
        some("15: n 0", BAD, x -> x.minute(0));
        some("15: n 201", BAD, x -> x.minute(201));
        some("15: n MIN", BAD, x -> x.minute(MIN));
        some("16: line", NONE, x -> x.board(4, 0));
        some("16: what", NONE, x -> x.board(0, 2));
        some("16: none has it", NONE, x -> x.board(3, 0));
        some("16: asked", 0, x -> x.board(0, 0));
        some("17: farm", NONE, x -> x.listen(8, 0));
        some("17: call", NONE, x -> x.listen(7, 6));
        some("17: not on", STATE, x -> x.listen(7, 4));
        some("17: in it", STATE, x -> x.listen(6, 0));
        some("17: another line", STATE, x -> x.listen(1, 0));
        some("17: took up", STATE, x -> x.listen(3, 0));
        some("18: call", NONE, x -> x.heard(6));
        some("18: asked", 1 | 8 | 64, x -> x.heard(0));
    }

    private static void ofWires() {
        some("19: line", NONE, x -> x.down(4, 0, true));
        some("19: wire", NONE, x -> x.down(0, 10, true));
        some("19: line -1", NONE, x -> x.down(-1, 10, true));
        some("19: wire -1", NONE, x -> x.down(1, -1, true));
        some("20: from", NONE, x -> x.reach(12, 0));
        some("20: to", NONE, x -> x.reach(0, 8));
        some("20: asked", 0, x -> x.reach(2, 12));
        some("21: from", NONE, x -> x.told(8, 0, true));
        some("21: to", NONE, x -> x.told(0, 13, false));
        some("21: one farm", BAD, x -> x.told(0, 0, false));
        full("21: full", FULL, x -> x.told(0, 12, false));
        some("22: line", NONE, x -> x.maybe(-1, 0));
        some("22: wire", NONE, x -> x.maybe(0, 10));
        some("22: told", STATE, x -> x.maybe(0, 0));
        full("22: full", FULL, x -> x.maybe(0, 9));
        some("23: what", NONE, x -> x.storm(2));
        some("23: asked", 3, x -> x.storm(0));
    }

    private static void ofDues() {
        some("24: farm", NONE, x -> x.pay(8, 0, 1));
        some("24: what", NONE, x -> x.pay(0, 2, 1));
        some("24: n 0", BAD, x -> x.pay(0, 0, 0));
        some("24: n 1000", BAD, x -> x.pay(0, 1, 1000));
        full("24: full", FULL, x -> x.pay(0, 0, 1));
        some("25: farm", NONE, x -> x.behind(8, 0));
        some("25: day", BAD, x -> x.behind(0, 1));
        some("25: asked", -12, x -> x.behind(2, 0));
        some("26: farm", NONE, x -> x.since(-1));
        some("26: it is not", -5, x -> x.since(0));
        some("27: farm", NONE, x -> x.town(8, 0, 0));
        some("27: days", BAD, x -> x.town(0, 1, 0));
        some("27: asked", 36, x -> x.town(2, 0, 0));
    }

    private static void ofMeetings() {
        some("28: farm", NONE, x -> x.quarrel(8, 0));
        some("28: one farm", BAD, x -> x.quarrel(3, 3));
        some("28: there was one", 0, x -> x.quarrel(1, 0));
        some("29: i", NONE, x -> x.divide(3, 3, 3));
        some("29: n", BAD, x -> x.divide(8, 3, 0));
        some("29: m", BAD, x -> x.divide(3, 4, 0));
        some("29: it can't be", -5, x -> x.divide(3, 1, 0));
        some("29: asked", 1, x -> x.divide(3, 3, 1));
        some("30: on", NONE, x -> x.vote(1, 1, 2));
        some("30: came", BAD, x -> x.vote(256, 0, -1));
        some("30: fors", BAD, x -> x.vote(255, 9, -1));
        full("30: full", FULL, x -> x.vote(1, 1, -1));
        some("31: meeting", NONE, x -> x.nought(2));
        some("31: it was", 0, x -> x.nought(0));
        some("32: asked", 0, x -> x.counting());
        some("33: what", NONE, x -> x.tried(2, 0));
        some("33: call", NONE, x -> x.tried(0, 6));
        full("35: there is none", STATE, x -> x.undo());
        some("36: what", NONE, x -> x.count(9));
        some("36: asked", 6, x -> x.count(7));
    }

    /** That a probe would tell: each of these changes something. */
    private static void changes(String name, ToIntFunction<OneWire> call) {
        String usual = USUAL.get("8");
        Due.is(name + " changes something", seen(UnchangedTest::some, call).equals(usual) ? 1 : 0, 0);
    }

    private static void ofChanges() {
        changes("2", x -> x.farm(0, 0, 0));
        changes("3", x -> x.code(7, 1, 0));
        changes("7", x -> x.feed(0x30, 1));
        changes("8", x -> x.text(400));
        changes("11", x -> x.ring(0, 1, 1));
        changes("12", x -> x.call(4, 0, 1));
        changes("15", x -> x.minute(1));
        changes("17", x -> x.listen(7, 0));
        changes("19", x -> x.down(3, 9, true));
        changes("21", x -> x.told(5, 12, true));
        changes("22", x -> x.maybe(3, 9));
        changes("24", x -> x.pay(7, 0, 1));
        changes("28", x -> x.quarrel(7, 6));
        changes("30", x -> x.vote(0, 0, -1));
        changes("31", x -> x.nought(1));
        changes("33", x -> x.tried(1, 0));
        changes("34", x -> x.image());
        changes("35", x -> x.undo());
    }

    /** Much of all that there is, and more. */
    private static void change(OneWire x) {
        x.farm(1, 0, 0);
        x.code(0, 4, 4);
        x.code(3, 0, 0);
        Due.feed(x, ";dues 2");
        x.text(0);
        Due.rule(x, "first 1 l=0;cords 0;near 100;tell !k=1", 0);
        Due.feed(x, "work 1");
        x.listen(7, 1);
        x.listen(8, 1);
        x.ring(5, 1, 1);
        x.minute(3);
        x.ring(2, 4, 1);
        x.minute(200);
        for (int wire = 0; wire < 10; wire++) x.down(wire % 4, wire, wire % 2 == 0);
        x.told(1, 2, true);
        x.told(4, 12, false);
        x.maybe(1, 1);
        x.maybe(1, 2);
        x.pay(2, 1, 3);
        x.pay(0, 0, 3);
        x.quarrel(2, 3);
        x.vote(7, 2, 1);
        x.nought(1);
    }

    private static int undone(OneWire x) {
        change(x);
        return x.undo();
    }

    private static void ofImages() {
        String taken = seen(UnchangedTest::some, OneWire::image);
        Due.is("34: to take it changes nothing but it", taken.equals(USUAL.get("8")) ? 1 : 0, 0);
        String changed = seen(UnchangedTest::some, x -> {
            change(x);
            return x.image();
        });
        Due.is("35: much is changed", changed.equals(taken) ? 1 : 0, 0);
        String back = seen(UnchangedTest::some, x -> x.image() + undone(x));
        Due.is("35: all is as the image", back.equals(taken) ? 1 : 0, 1);
        String twice = seen(UnchangedTest::some, x -> x.image() + undone(x) + undone(x));
        Due.is("35: once more", twice.equals(taken) ? 1 : 0, 1);
        String again = seen(UnchangedTest::some, x -> x.image() + undone(x) + x.image());
        Due.is("34: taken again", again.equals(taken) ? 1 : 0, 1);
        String later = seen(UnchangedTest::some, x -> {
            x.image();
            change(x);
            x.image();
            return x.minute(9) + x.farm(0, 0, 0) + x.undo();
        });
        Due.is("34: a later one", later.equals(changed) ? 1 : 0, 1);
        String apart = seen(UnchangedTest::some, x -> {
            OneWire y = some();
            change(y);
            y.image();
            return undone(y);
        });
        Due.is("34: another object's", apart.equals(USUAL.get("8")) ? 1 : 0, 1);
    }

    public static void main(String[] args) {
        probes();
        ofFarms();
        ofRules();
        ofCalls();
        ofWires();
        ofDues();
        ofMeetings();
        ofChanges();
        ofImages();
        Due.end();
    }
}
