/** Promises 7 to 10: the tape, texts, what rules. */
public final class RulesTest {
    private static void feeds() {
        OneWire x = new OneWire();
        Due.is("7: n 0", x.feed(0, 0), OneWire.BAD);
        Due.is("7: n 9", x.feed(0, 9), OneWire.BAD);
        Due.is("7: n -1", x.feed(0, -1), OneWire.BAD);
        // the lowest bytes only, the highest of them first: "dues 7"
        Due.is("7: 2 bytes", x.feed(0x7777777777776475L, 2), 2);
        Due.is("7: 4 more", x.feed(0x65732037L, 4), 6);
        Due.is("7: it reads as dues 7", x.text(0), 0);
        Due.is("7: dues", x.force(1, 0, 0), 7);
        for (int k = 1; k <= 14; k++) Due.is("7: fill " + k, x.feed(-1, 8), 8 * k);
        Due.is("7: 7 more", x.feed(-1, 7), 119);
        Due.is("7: 2 too many", x.feed(-1, 2), OneWire.FULL);
        Due.is("7: n ahead of full", x.feed(-1, 9), OneWire.BAD);
        Due.is("7: the last one", x.feed(-1, 1), 120);
        Due.is("7: none fits", x.feed(-1, 1), OneWire.FULL);
        Due.is("7: size", x.count(7), 120);
    }

    private static void fault(String text, int want) {
        OneWire x = new OneWire();
        Due.feed(x, text);
        Due.is("8: " + text, x.text(0), want < 0 ? 0 : -10 - want);
        Due.is("8: tape behind " + text, x.count(7), 0);
        Due.is("8: rules behind " + text, x.count(1), want < 0 ? 1 : 0);
        Due.feed(x, text);
        int tried = x.tried(1, 0);
        Due.is("8: tried " + text, tried, want < 0 ? 0 : -10 - want);
    }

    private static void faults() {
        fault("", 0);
        fault("dues 0", -1);
        fault("dues 999", -1);
        fault("dues 1000", 8);
        fault("dues 00", 6);
        fault("dues 01", 6);
        fault("dues", 4);
        fault("dues ", 5);
        fault("dues  1", 5);
        fault("dues 1 ", 6);
        fault("dues x", 5);
        fault("dues1", 4);
        fault("duess 1", 4);
        fault("dies 1", 1);
        fault("Dues 1", 0);
        fault(" dues 1", 0);
        fault(";", 0);
        fault("dues 1;", 7);
        fault("dues 1;;", 7);
        fault("dues 1; work 1", 7);
        fault("dues 1;work 2;long 3;cords 4;near 5;tell k=1;first 1 k=1;near 1", -1);
        fault("near 1;near 2;near 3;near 4;near 5;near 6;near 7;near 8", -1);
        fault("near 1;near 2;near 3;near 4;near 5;near 6;near 7;near 8;", 55);
        fault("near 1;near 2;near 3;near 4;near 5;near 6;near 7;near 8;near 9", 55);
        fault("first k=1", 6);
        fault("first 1k=1", 7);
        fault("first 1", 7);
        fault("first 1 ", 8);
        fault("first 1 k", 9);
        fault("first 1 k=", 10);
        fault("first 1 k=1", -1);
        fault("first 1 k=1 ", 11);
        fault("first 1 k<1", 9);
        fault("tell 1", 5);
        fault("tell k=1000", 10);
        fault("tell k=999", -1);
        fault("tell k=01", 8);
        fault("tell l=3|f=11&g=12|h<5&h>4", -1);
        fault("tell h=3", 6);
        fault("tell h<", 7);
        fault("tell h<>3", 7);
        fault("tell x=1", 5);
        fault("tell k=1||l=1", 9);
        fault("tell k=1&", 9);
        fault("tell k=1&|", 9);
        fault("tell k=1|", 9);
        fault("tell (k=1", 9);
        fault("tell (k=1)", -1);
        fault("tell (k=1))", 10);
        fault("tell ()", 6);
        fault("tell k=1)", 8);
        fault("tell !", 6);
        fault("tell !!!!!k=1", -1);
        fault("tell !!!!!!k=1", 10);
        fault("tell (((((k=1)))))", -1);
        fault("tell ((((((k=1))))))", 10);
        fault("tell !(!(!k=1))", -1);
        fault("tell !(!(!(k=1)))", 10);
        fault("tell !(!(!!k=1))", 10);
        // what is closed is open no more
        fault("tell !!!!!k=1&!!!!!k=2|(((((k=3)))))&!(!k=1)&!!!!!k=1", -1);
        fault("tell !(!(!k=1)&!k=1)", -1);
        fault("tell !(!(!k=1)&!!!k=1)", -1);
        fault("tell !(!(!k=1)&!!!!k=1)", 18);
        fault("tell !(k=1)!k=1", 11);
        fault("tell k=1;tell l=2;cords", 23);
        fault("tell k=1 ", 8);
        fault("work 3\u00ff", 6);
        fault("\u0000", 0);
        String longest = "tell k=1";
        while (longest.length() < 117) longest += "|k=1";
        fault(longest, -1);
        fault(longest.substring(0, 116) + "|k=1", -1);
        fault(longest.substring(0, 116) + "|k=", 119);
        fault(longest.substring(0, 116) + "|k=x", 119);
        fault(longest.substring(0, 116) + "&!(k", 120);
    }

    private static void texts() {
        OneWire x = new OneWire();
        Due.feed(x, "dues 3");
        Due.is("8: day -1", x.text(-1), OneWire.BAD);
        Due.is("8: day 401", x.text(401), OneWire.BAD);
        Due.is("8: the tape stays", x.count(7), 6);
        Due.is("8: day 400", x.text(400), 0);
        Due.is("8: it is empty", x.count(7), 0);
        for (int k = 1; k < 10; k++) Due.is("8: rule " + k, Due.rule(x, "dues " + k, 10), k);
        Due.feed(x, "dues");
        Due.is("8: an 11th", x.text(0), OneWire.FULL);
        Due.is("8: day ahead of full", x.text(401), OneWire.BAD);
        Due.is("8: the tape stays", x.count(7), 4);
        Due.is("8: rules", x.count(1), 10);
    }

    private static OneWire withCalls() {
        OneWire x = new OneWire();
        x.farm(0, 2, 0);
        x.farm(0, 7, 0);
        x.farm(1, 4, 0);
        x.ring(0, 1, 1); // call 0: a ring
        x.ring(2, 1, 1); // call 1: a through from line 1
        x.call(3, 1, 1); // call 2: out
        x.call(4, 2, 1); // call 3: to all on line 1
        Due.pass(x, 142);
        x.ring(1, 0, 1); // call 4: asked on day 1, minute 42
        return x;
    }

    private static void usual() {
        OneWire x = withCalls();
        int[] want = {50, 10, 2, 5, 2, 0, 40};
        for (int word = 0; word < 7; word++) {
            Due.is("9: usual " + word, x.force(word, 0, 0), want[word]);
            Due.is("10: usual " + word, x.why(word, 0, 400), -5);
        }
        for (int word : new int[] {-1, 7, Integer.MIN_VALUE, Integer.MAX_VALUE}) {
            Due.is("9: word", x.force(word, 0, 999), OneWire.NONE);
            Due.is("10: word", x.why(word, 0, 999), OneWire.NONE);
        }
        for (int call : new int[] {-1, 5, 60, Integer.MIN_VALUE, Integer.MAX_VALUE}) {
            Due.is("9: call of first", x.force(0, call, 0), OneWire.NONE);
            Due.is("9: call of tell", x.force(5, call, -1), OneWire.NONE);
            Due.is("9: call of dues", x.force(1, call, 0), 10);
            Due.is("10: call of first", x.why(0, call, 0), OneWire.NONE);
            Due.is("10: call of tell", x.why(5, call, -1), OneWire.NONE);
            Due.is("10: call of near", x.why(6, call, 0), -5);
        }
        for (int day : new int[] {-1, 401, Integer.MIN_VALUE, Integer.MAX_VALUE}) {
            Due.is("9: day", x.force(1, 0, day), OneWire.BAD);
            Due.is("10: day", x.why(0, 0, day), OneWire.BAD);
        }
    }

    private static void days() {
        OneWire x = withCalls();
        Due.rule(x, "dues 1;cords 7;dues 2", 10);
        Due.rule(x, "dues 3;work 8", 20);
        Due.rule(x, "near 99", 20);
        Due.rule(x, "dues 4", 15);
        Due.rule(x, "long 19;dues 5", 15);
        Due.is("9: ahead of all", x.force(1, 0, 9), 10);
        Due.is("9: the last of it", x.force(1, 0, 10), 2);
        Due.is("10: the last of it", x.why(1, 0, 10), 2);
        Due.is("9: day 14", x.force(1, 0, 14), 2);
        Due.is("9: the greatest number", x.force(1, 0, 15), 5);
        Due.is("10: the greatest number", x.why(1, 0, 19), 401);
        Due.is("9: the greatest day", x.force(1, 0, 20), 3);
        Due.is("10: the greatest day", x.why(1, 0, 400), 200 / 2);
        Due.is("10: work", x.why(2, 0, 20), 101);
        Due.is("9: work", x.force(2, 0, 19), 2);
        Due.is("9: long", x.force(3, 0, 400), 19);
        Due.is("9: long ahead", x.force(3, 0, 14), 5);
        Due.is("9: cords of a rule of long ago", x.force(4, 0, 400), 7);
        Due.is("10: cords", x.why(4, 0, 400), 1);
        Due.is("9: near", x.force(6, 0, 20), 99);
        Due.is("10: near", x.why(6, 0, 20), 200);
        Due.is("10: near, day ahead", x.why(6, 0, 19), -5);
    }

    private static void firsts() {
        OneWire x = withCalls();
        Due.rule(x, "first 1 k=1;first 2 f=0;first 3 k=3", 5);
        Due.rule(x, "first 4 l=1&!g=12", 7);
        Due.is("9: the last that holds", x.force(0, 0, 6), 2);
        Due.is("10: the last that holds", x.why(0, 0, 6), 1);
        Due.is("10: the only one", x.why(0, 4, 6), 0);
        Due.is("10: none", x.why(0, 1, 6), -5);
        Due.is("9: none", x.force(0, 1, 6), 50);
        Due.is("10: the later rule", x.why(0, 1, 7), 100);
        Due.is("9: the later rule", x.force(0, 1, 7), 4);
        Due.is("10: none holds there, the next such rule", x.why(0, 2, 7), 2);
        Due.is("10: none holds there, the next such rule", x.why(0, 0, 400), 1);
        Due.is("10: none anywhere", x.why(0, 3, 400), -5);
        Due.is("10: none in force", x.why(0, 0, 4), -5);
    }

    /** For which calls a text holds, as bits. */
    private static void holds(String text, int want) {
        OneWire x = withCalls();
        Due.rule(x, "tell " + text, 3);
        Due.rule(x, "first 77 " + text, 2);
        int told = 0, first = 0;
        for (int call = 0; call < 5; call++) {
            told += x.force(5, call, 3) << call;
            first += (x.force(0, call, 3) == 77 ? 1 : 0) << call;
            Due.is("10: tell rules of " + call + ", " + text, x.why(5, call, 3), 0);
            Due.is("10: first of " + call + ", " + text, x.why(0, call, 3), (want >> call & 1) != 0 ? 100 : -5);
        }
        Due.is("9: tell " + text, told, want);
        Due.is("9: first " + text, first, want);
    }

    private static void expressions() {
        holds("k=0", 0);
        holds("k=1", 17);
        holds("k=2", 2);
        holds("k=3", 4);
        holds("k=4", 8);
        holds("l=0", 21);
        holds("l=1", 10);
        holds("f=0", 1);
        holds("f=1", 20);
        holds("f=2", 10);
        holds("g=0", 16);
        holds("g=1", 3);
        holds("g=12", 12);
        holds("g=112", 0);
        holds("h<42", 15);
        holds("h<43", 31);
        holds("h>42", 0);
        holds("h>41", 16);
        holds("h<0", 0);
        holds("h>0", 16);
        holds("!k=1", 14);
        holds("!!k=1", 17);
        holds("!!!k=1", 14);
        holds("k=1|k=2", 19);
        holds("k=1&f=0", 1);
        holds("k=2|k=1&f=0", 3);
        holds("f=0&k=1|k=2", 3);
        holds("(k=2|k=1)&f=0", 1);
        holds("f=0&(k=2|k=1)", 1);
        holds("!k=1&l=0", 4);
        holds("!(k=1&l=0)", 14);
        holds("!(k=1|l=1)", 4);
        holds("k=1&f=1|k=2&f=2|k=3&f=0", 18);
        holds("k=1&!f=1&g=1|!(!(!g=12|f=1)|k=1)", 7);
        holds("((k=1|k=2)&(f=0|f=2))", 3);
    }

    private static void tells() {
        OneWire x = withCalls();
        Due.rule(x, "tell k=1;tell k=2", 1);
        Due.is("9: the last tell, though it doesn't hold", x.force(5, 0, 1), 0);
        Due.is("10: the last tell, though it doesn't hold", x.why(5, 0, 1), 1);
        Due.is("9: the last tell", x.force(5, 1, 1), 1);
        Due.rule(x, "dues 1", 1);
        Due.is("10: a rule without", x.why(5, 1, 1), 1);
        Due.rule(x, "tell k=3", 0);
        Due.is("9: day 0", x.force(5, 2, 0), 1);
        Due.is("9: day 1", x.force(5, 2, 1), 0);
        Due.is("10: day 0", x.why(5, 0, 0), 200);
    }

    /** A shorter text behind a longer one that was in the same place. */
    private static void stale() {
        OneWire x = withCalls();
        Due.feed(x, "tell k=1|k=2|k=3|k=4;dues 5;dues 6;dues 7");
        Due.is("8: only tried", x.tried(1, 0), 5);
        Due.is("8: a shorter one", Due.rule(x, "tell k=1", 0), 0);
        Due.is("9: it says no more", x.force(5, 1, 0), 0);
        Due.is("9: no dues", x.force(1, 0, 0), 10);
        Due.feed(x, "dues 1;dues 2;dues 3;dues 4;dues 5;x");
        Due.is("8: a fault", x.text(0), -45);
        Due.is("8: a shorter one", Due.rule(x, "work 1", 0), 1);
        Due.is("9: no dues", x.force(1, 0, 0), 10);
    }

    /** However many tapes were read, there is room for the next one. */
    private static void many() {
        OneWire x = withCalls();
        String longest = "tell k=9";
        while (longest.length() < 113) longest += "|k=9";
        for (int k = 0; k < 6; k++) {
            Due.feed(x, longest);
            Due.is("8: none holds", x.tried(1, 0), 0);
            Due.feed(x, longest + "|k");
            Due.is("8: a fault", x.text(0), -10 - longest.length() - 2);
        }
        for (int k = 0; k < 10; k++) Due.is("8: rule " + k, Due.rule(x, longest + "|k=1", k), k);
        for (int k = 0; k < 10; k++) Due.is("9: it holds", x.force(5, 0, k), 1);
        Due.feed(x, longest + "|k=2");
        Due.is("8: it holds for one", x.tried(1, 0), 0 + 2 - 1);
        Due.is("9: it holds still", x.force(5, 1, 9), 0);
    }

    public static void main(String[] args) {
        feeds();
        faults();
        texts();
        usual();
        days();
        firsts();
        expressions();
        tells();
        stale();
        many();
        Due.end();
    }
}
