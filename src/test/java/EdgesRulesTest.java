/** Boundary cases of promises 7 to 10: the tape, texts, what rules. Each remark is the document's sentence. */
public final class EdgesRulesTest {
    private static final int NONE = Edges.NONE, BAD = Edges.BAD, FULL = Edges.FULL;
    private static final int MIN = Edges.MIN, MAX = Edges.MAX;
    private static final int FIRST = 0, DUES = 1, WORK = 2, LONG = 3, CORDS = 4, TELL = 5, NEAR = 6;

    // ---- promise 7

    // BAD: n not 1 .. 8
    static void p07_nTooSmall() {
        OneWire x = new OneWire();
        Due.is("n 0", x.feed(1, 0), BAD);
        Due.is("n -1", x.feed(1, -1), BAD);
        Due.is("n MIN", x.feed(1, MIN), BAD);
        Due.is("the tape", x.count(7), 0);
    }

    static void p07_nTooLarge() {
        OneWire x = new OneWire();
        Due.is("n 9", x.feed(1, 9), BAD);
        Due.is("n 120", x.feed(1, 120), BAD);
        Due.is("n MAX", x.feed(1, MAX), BAD);
        Due.is("the tape", x.count(7), 0);
    }

    // how many it has
    static void p07_leastAndMost() {
        OneWire x = new OneWire();
        Due.is("n 1", x.feed(-1L, 1), 1);
        Due.is("n 8", x.feed(Long.MIN_VALUE, 8), 9);
        Due.is("n 1", x.feed(0, 1), 10);
        Due.is("the tape", x.count(7), 10);
    }

    // The n lowest bytes of w: those above do not matter
    static void p07_lowestBytes() {
        OneWire x = new OneWire();
        x.feed(0xffffffffffff6475L, 2);
        x.feed(0x8000000000006573L, 2);
        x.feed(0x7f20L, 1);
        x.feed(0x3939393939393937L, 1);
        Due.is("dues 7", x.text(0), 0);
        Due.is("7", x.force(DUES, 0, 0), 7);
    }

    // the highest first, come behind THE TAPE's
    static void p07_highestFirst() {
        OneWire x = new OneWire();
        x.feed(0x6475657320313233L, 8);
        Due.is("dues 123", x.text(0), 0);
        Due.is("123", x.force(DUES, 0, 0), 123);
    }

    // bytes: one of 128 or more is none of those 128 below it, nor one below 0
    static void p07_bytesOf128AndMore() {
        OneWire x = new OneWire();
        x.feed(0xe4f5e5f3a0b7L, 6);
        Due.is("dues 7 and 128 each", x.text(0), -10);
        x.feed(0x6475657320b7L, 6);
        Due.is("dues and 7 of 128 more", x.text(0), -15);
        x.feed(0x6475657320ffL, 6);
        Due.is("dues and 255", x.text(0), -15);
        x.feed(0x647565732037ffL, 7);
        Due.is("dues 7 and 255", x.text(0), -16);
        x.feed(0x64756573203700L, 7);
        Due.is("dues 7 and 0", x.text(0), -16);
    }

    // THE TAPE (bytes, 120 at most); FULL
    static void p07_the120thByte() {
        OneWire x = new OneWire();
        for (int k = 1; k <= 15; k++) Due.is("8 more", x.feed(0, 8), 8 * k);
        Due.is("the 121st", x.feed(0, 1), FULL);
        Due.is("8 more", x.feed(0, 8), FULL);
        Due.is("the tape", x.count(7), 120);
    }

    static void p07_oneTooMany() {
        OneWire x = new OneWire();
        for (int k = 1; k <= 14; k++) x.feed(0, 8);
        Due.is("113", x.feed(0, 1), 113);
        Due.is("8 are one too many", x.feed(0, 8), FULL);
        Due.is("none of them came", x.count(7), 113);
        Due.is("7 are not", x.feed(0, 7), 120);
    }

    static void p07_badAheadOfFull() {
        OneWire x = new OneWire();
        for (int k = 1; k <= 15; k++) x.feed(0, 8);
        Due.is("n 0", x.feed(0, 0), BAD);
        Due.is("n 9", x.feed(0, 9), BAD);
    }

    static void p07_refusedKeepsTheTape() {
        OneWire x = new OneWire();
        Due.feed(x, "dues 7");
        x.feed(0x38, 0);
        x.feed(0x38, 9);
        Due.is("it reads", x.text(0), 0);
        Due.is("7", x.force(DUES, 0, 0), 7);
    }

    // ---- promise 8

    /** A text that is a rule. */
    private static void good(String text) {
        OneWire x = new OneWire();
        Due.is(text, Due.rule(x, text, 0), 0);
        Due.is("rules by " + text, x.count(1), 1);
        Due.is("the tape behind " + text, x.count(7), 0);
    }

    /** A text that has a fault, and where. */
    private static void fault(String text, int at) {
        OneWire x = new OneWire();
        Due.is(text, Due.rule(x, text, 0), -10 - at);
        Due.is("rules by " + text, x.count(1), 0);
        Due.is("the tape behind " + text, x.count(7), 0);
    }

    // BAD: day (THE TAPE stays)
    static void p08_dayTooSmall() {
        OneWire x = new OneWire();
        Due.feed(x, "dues 7");
        Due.is("day -1", x.text(-1), BAD);
        Due.is("day MIN", x.text(MIN), BAD);
        Due.is("the tape stays", x.count(7), 6);
        Due.is("and reads", x.text(0), 0);
        Due.is("as it was", x.force(DUES, 0, 0), 7);
    }

    static void p08_dayTooLarge() {
        OneWire x = new OneWire();
        Due.feed(x, "dues 7");
        Due.is("day 401", x.text(401), BAD);
        Due.is("day MAX", x.text(MAX), BAD);
        Due.is("the tape stays", x.count(7), 6);
        Due.is("and reads", x.text(400), 0);
        Due.is("as it was", x.force(DUES, 0, 400), 7);
    }

    // DAYS are 0 .. 400; a RULE from a DAY on
    static void p08_firstAndLastDay() {
        OneWire x = new OneWire();
        Due.is("day 400", Due.rule(x, "dues 8", 400), 0);
        Due.is("day 0", Due.rule(x, "dues 7", 0), 1);
        Due.is("on day 0", x.force(DUES, 0, 0), 7);
        Due.is("on day 399", x.force(DUES, 0, 399), 7);
        Due.is("on day 400", x.force(DUES, 0, 400), 8);
    }

    // RULES are numbered from 0 on, 10 at most; FULL (THE TAPE stays)
    static void p08_the10thAndThe11th() {
        OneWire x = new OneWire();
        for (int k = 0; k < 10; k++) Due.is("rule " + k, Due.rule(x, "dues " + k, k), k);
        Due.feed(x, "dues 99");
        Due.is("an 11th", x.text(0), FULL);
        Due.is("the tape stays", x.count(7), 7);
        Due.is("rules", x.count(1), 10);
        Due.is("none more", x.force(DUES, 0, 400), 9);
    }

    static void p08_badAheadOfFull() {
        OneWire x = new OneWire();
        for (int k = 0; k < 10; k++) Due.rule(x, "dues 1", 0);
        Due.is("day -1", x.text(-1), BAD);
        Due.is("day 401", x.text(401), BAD);
    }

    // FULL ahead of the FAULT, BAD as well: THE TAPE stays
    static void p08_refusalsAheadOfTheFault() {
        OneWire x = new OneWire();
        Due.feed(x, "dies");
        Due.is("day 401", x.text(401), BAD);
        Due.is("the tape stays", x.count(7), 4);
        x.text(0);
        for (int k = 0; k < 10; k++) Due.rule(x, "dues 1", 0);
        Due.feed(x, "dies");
        Due.is("full", x.text(0), FULL);
        Due.is("the tape stays", x.count(7), 4);
    }

    // THE TAPE, which is empty then (by a FAULT, too)
    static void p08_emptyThen() {
        OneWire x = new OneWire();
        Due.rule(x, "dues 7", 0);
        Due.is("by a rule", x.count(7), 0);
        Due.rule(x, "dies", 0);
        Due.is("by a fault", x.count(7), 0);
        Due.is("room for 120", Due.rule(x, "tell k=1" + "|k=1".repeat(28), 0), 1);
    }

    // a FAULT makes no RULE: the next one's number is as if it had not been
    static void p08_faultIsNoRule() {
        OneWire x = new OneWire();
        Due.rule(x, "dues 7;dues 8;x", 0);
        Due.is("rules", x.count(1), 0);
        Due.is("dues", x.force(DUES, 0, 0), 10);
        Due.is("the next one", Due.rule(x, "work 1", 0), 0);
        Due.is("dues", x.force(DUES, 0, 0), 10);
    }

    // (the size, if it ends too early): of an empty tape
    static void p08_emptyTape() {
        OneWire x = new OneWire();
        Due.is("nothing", x.text(0), -10);
        Due.is("rules", x.count(1), 0);
    }

    static void p08_endsTooEarly() {
        String whole = "first 12 k=3";
        for (int size = 0; size < whole.length(); size++) {
            // 1, 2 and 12 are numbers, but no rule ends with them
            fault(whole.substring(0, size), size);
        }
        good(whole);
        String told = "tell !(h<9&g=1)";
        for (int size = 0; size < told.length(); size++) fault(told.substring(0, size), size);
        good(told);
        for (String word : new String[] {"dues", "work", "long", "cords", "near"}) {
            for (int size = 0; size < word.length(); size++) fault(word.substring(0, size), size);
            fault(word, word.length());
            fault(word + " ", word.length() + 1);
            good(word + " 0");
        }
    }

    // the place of the first byte with which no RULE can go on: of a word
    static void p08_faultInAWord() {
        String[] words = {"first", "dues", "work", "long", "cords", "tell", "near"};
        for (String word : words) {
            for (int at = 0; at < word.length(); at++) {
                fault(word.substring(0, at) + "x" + word.substring(at + 1) + " 1", at);
                fault(word.substring(0, at) + (char) (word.charAt(at) - 32) + word.substring(at + 1) + " 1", at);
            }
            fault(word + "x 1", word.length());
            fault(" " + word + " 1", 0);
        }
        fault("fi", 2);
        fault("dirst 1 k=1", 1);
        fault("tuess 1", 1);
        fault("lork 1", 2);
    }

    // CLAUSES .. with ; between
    static void p08_between() {
        good("dues 1;dues 1");
        fault("dues 1;", 7);
        fault(";dues 1", 0);
        fault("dues 1;;dues 1", 7);
        fault("dues 1; dues 1", 7);
        fault("dues 1 ;dues 1", 6);
        fault("dues 1,dues 1", 6);
        fault("dues 1dues 1", 6);
        fault("dues 1|dues 1", 6);
    }

    // CLAUSES, 8 at most: the ; behind the 8th is the FAULT
    static void p08_the8thAndThe9thClause() {
        String eight = "dues 1;work 2;long 3;cords 4;near 5;tell k=1;first 6 k=1;near 7";
        good(eight);
        fault(eight + ";", eight.length());
        fault(eight + ";near 8", eight.length());
        fault(eight + "x", eight.length());
        OneWire x = new OneWire();
        Due.rule(x, eight, 0);
        Due.is("the 8th", x.why(NEAR, 0, 0), 7);
        String short8 = "near 1;near 2;near 3;near 4;near 5;near 6;near 7;near 8";
        good(short8);
        fault(short8 + ";", 55);
    }

    // n: 1 to 3 digits
    static void p08_digits() {
        good("dues 0");
        good("dues 9");
        good("dues 10");
        good("dues 99");
        good("dues 100");
        good("dues 999");
        fault("dues 1000", 8);
        fault("dues 9999", 8);
        fault("dues ;", 5);
        fault("dues -1", 5);
        fault("dues +1", 5);
        fault("dues a", 5);
        fault("dues 1a", 6);
        fault("dues 1.5", 6);
        fault("dues :", 5);
        fault("dues /", 5);
        fault("first 1000 k=1", 9);
        fault("tell k=1000", 10);
        fault("tell h<1000", 10);
    }

    // (no 0 ahead of another)
    static void p08_no0Ahead() {
        fault("dues 00", 6);
        fault("dues 01", 6);
        fault("dues 012", 6);
        fault("dues 000", 6);
        fault("first 05 k=1", 7);
        fault("tell k=01", 8);
        fault("tell h>00", 8);
        good("dues 0");
        good("dues 101");
        good("first 0 k=0&h<0");
    }

    // what a number of each size says
    static void p08_numbersSay() {
        OneWire x = new OneWire();
        int[] numbers = {0, 9, 10, 99, 100, 909, 990, 999};
        for (int k = 0; k < 8; k++) {
            Due.rule(x, "near " + numbers[k], k);
            Due.is("near", x.force(NEAR, 0, k), numbers[k]);
        }
    }

    // one blank ahead of each part behind the word
    static void p08_oneBlank() {
        fault("dues1", 4);
        fault("dues  1", 5);
        fault("dues\t1", 4);
        fault("dues 1 ", 6);
        fault("tellk=1", 4);
        fault("tell  k=1", 5);
        fault("tell k=1 ", 8);
        fault("tell k =1", 6);
        fault("tell k= 1", 7);
        fault("first1 k=1", 5);
        fault("first 1k=1", 7);
        fault("first 1  k=1", 8);
        fault("first k=1", 6);
        fault("first 1", 7);
        fault("first 1;dues 1", 7);
        fault("first 1 ;dues 1", 8);
        fault("near 1 k=1", 6);
        fault("dues k=1", 5);
        fault("tell 1", 5);
        fault("tell 1 k=1", 5);
    }

    // E: T, or T|E. T: F, or F&T.
    static void p08_joined() {
        good("tell k=1|k=2");
        good("tell k=1&k=2");
        good("tell k=1|k=2&k=3|k=4");
        fault("tell |k=1", 5);
        fault("tell &k=1", 5);
        fault("tell k=1|", 9);
        fault("tell k=1&", 9);
        fault("tell k=1||k=2", 9);
        fault("tell k=1&&k=2", 9);
        fault("tell k=1|&k=2", 9);
        fault("tell k=1&|k=2", 9);
        fault("tell k=1&;dues 1", 9);
        fault("tell k=1k=2", 8);
        fault("tell k=1!k=2", 8);
        fault("tell k=1(k=2)", 8);
        fault("tell k=1 |k=2", 8);
    }

    // F: !F, (E), or one of k l f g h
    static void p08_one() {
        good("tell k=0");
        good("tell l=0");
        good("tell f=0");
        good("tell g=0");
        good("tell h<0");
        good("tell !k=0");
        good("tell (k=0)");
        good("tell !(!k=0)");
        good("tell (!(k=0|k=1)&k=2)");
        fault("tell m=0", 5);
        fault("tell j=0", 5);
        fault("tell e=0", 5);
        fault("tell i<0", 5);
        fault("tell K=0", 5);
        fault("tell )", 5);
        fault("tell ;", 5);
        fault("tell !", 6);
        fault("tell !)", 6);
        fault("tell !|k=1", 6);
        fault("tell (", 6);
        fault("tell ()", 6);
        fault("tell (k=0", 9);
        fault("tell (k=0;dues 1", 9);
        fault("tell (k=0))", 10);
        fault("tell k=0)", 8);
        fault("tell (k=0|)", 10);
        fault("tell (!)", 7);
    }

    // each with = and a number
    static void p08_withEquals() {
        for (char letter : new char[] {'k', 'l', 'f', 'g'}) {
            good("tell " + letter + "=999");
            fault("tell " + letter, 6);
            fault("tell " + letter + "<1", 6);
            fault("tell " + letter + ">1", 6);
            fault("tell " + letter + "!=1", 6);
            fault("tell " + letter + "1", 6);
            fault("tell " + letter + "=", 7);
            fault("tell " + letter + "==1", 7);
            fault("tell " + letter + "=k", 7);
            fault("tell " + letter + "=-1", 7);
        }
    }

    // h MINUTE with < or > and a number
    static void p08_withLessOrMore() {
        good("tell h<0");
        good("tell h>999");
        fault("tell h", 6);
        fault("tell h=1", 6);
        fault("tell h!1", 6);
        fault("tell h1", 6);
        fault("tell h<", 7);
        fault("tell h>", 7);
        fault("tell h<=1", 7);
        fault("tell h>=1", 7);
        fault("tell h<>1", 7);
        fault("tell h>>1", 7);
    }

    // At most 5 of ! and ( are open
    static void p08_fiveOpen() {
        good("tell !!!!!k=1");
        good("tell (((((k=1)))))");
        good("tell !(!(!k=1))");
        good("tell (!(!(k=1)))");
        good("first 1 !!!!!k=1");
        fault("tell !!!!!!k=1", 10);
        fault("tell ((((((k=1))))))", 10);
        fault("tell !!!!!(k=1)", 10);
        fault("tell (((((!k=1)))))", 10);
        fault("tell !(!(!(k=1)))", 10);
        fault("first 1 !!!!!!k=1", 13);
        fault("tell !!!!!", 10);
        fault("tell (((((k=1))))", 17);
        fault("tell (((((k=1))))))", 18);
    }

    // (a ( till its ))
    static void p08_openTillItsEnd() {
        good("tell (((((k=1)))))&(((((k=2)))))|(((((k=3)))))");
        good("tell ((((k=1)&(k=2)|(k=3))))");
        good("tell ((((k=1))))&!!!!!k=1");
        good("tell (((((k=1))))&!!!!k=1)");
        fault("tell (((((k=1))))&!!!!!k=1)", 22);
        fault("tell ((((k=1)&(k=2)|((k=3)))&((((", 32);
    }

    // a ! till its F ends
    static void p08_openTillItsFEnds() {
        good("tell !!!!!k=1&!!!!!k=2|!!!!!k=3");
        good("tell !!!!(k=1)&!!!!(k=2)");
        good("tell !(k=1)&!!!!(k=2)");
        good("tell (!!!!k=1|!!!!k=1)");
        good("tell !(!!!k=1&!!!k=1)");
        fault("tell (!!!!k=1|!!!!!k=1)", 18);
        fault("tell !(!!!k=1&!!!!k=1)", 17);
        fault("tell !!(k=1&(k=1|!(k=1)))", 18);
    }

    // of several clauses each begins with none open
    static void p08_openAnew() {
        good("tell !!!!!k=1;tell !!!!!k=1;first 1 (((((k=1)))))");
        fault("tell !!!!!k=1;tell !!!!!!k=1", 24);
    }

    // THE TAPE (bytes, 120 at most): a text as long as it can be
    static void p08_of120Bytes() {
        String most = "tell k=1" + "|k=1".repeat(28);
        good(most);
        fault(most.substring(0, 119), 119);
        fault(most.substring(0, 118), 118);
        fault(most.substring(0, 119) + "x", 119);
        fault(most.substring(0, 116) + "|k==", 119);
        fault(most.substring(0, 116) + "&!!!", 120);
        fault(most.substring(0, 114) + ";near 1", 114);
        good(most.substring(0, 112) + ";dues 12");
        fault(most.substring(0, 112) + ";first 1", 120);
    }

    // however many texts were read, there is room for as long a one
    static void p08_manyTexts() {
        OneWire x = new OneWire();
        x.farm(0, 0, 0);
        x.call(3, 0, 1);
        for (int k = 0; k < 24; k++) {
            Due.feed(x, "tell k=1" + "|k=1".repeat(28));
            Due.is("text " + k, k % 3 == 0 ? Due.rule(x, "|", 0) : x.tried(1, 0), k % 3 == 0 ? k / 3 : 0);
        }
        Due.is("one more", Due.rule(x, "tell k=1" + "|k=1".repeat(27) + "|k=3", 0), 8);
        Due.is("it holds", x.force(TELL, 0, 0), 1);
    }

    // ---- promises 9 and 10

    /** Farms 0 (line 0), 1 (line 3) and 11 of them on line 1; calls: 0 a ring, 1 a through, 2 out, 3 to all. */
    private static OneWire calls() {
        OneWire x = new OneWire();
        x.farm(0, 2, 0);
        x.farm(3, 7, 0);
        for (int k = 2; k < 12; k++) x.farm(1, k - 2, 0);
        x.ring(2, 11, 1);
        x.ring(1, 0, 1);
        x.call(3, 0, 1);
        x.call(4, 11, 1);
        return x;
    }

    // NONE: there is no such word
    static void p09_noWord() {
        OneWire x = calls();
        for (int word : new int[] {-1, 7, MIN, MAX}) Due.is("word " + word, x.force(word, 0, 0), NONE);
    }

    static void p10_noWord() {
        OneWire x = calls();
        for (int word : new int[] {-1, 7, MIN, MAX}) Due.is("word " + word, x.why(word, 0, 0), NONE);
    }

    // a CALL (of first, tell; else it does not matter)
    static void p09_noCall() {
        OneWire x = calls();
        for (int call : new int[] {-1, 4, MIN, MAX}) {
            Due.is("first of call " + call, x.force(FIRST, call, 0), NONE);
            Due.is("tell of call " + call, x.force(TELL, call, 0), NONE);
        }
        Due.is("first of the last one", x.force(FIRST, 3, 0), 50);
        Due.is("tell of the last one", x.force(TELL, 3, 0), 0);
    }

    static void p10_noCall() {
        OneWire x = calls();
        for (int call : new int[] {-1, 4, MIN, MAX}) {
            Due.is("first of call " + call, x.why(FIRST, call, 0), NONE);
            Due.is("tell of call " + call, x.why(TELL, call, 0), NONE);
        }
    }

    static void p09_callDoesNotMatter() {
        OneWire x = new OneWire();
        Due.rule(x, "dues 1;work 2;long 3;cords 4;near 5", 0);
        int[] words = {DUES, WORK, LONG, CORDS, NEAR};
        for (int k = 0; k < 5; k++) {
            for (int call : new int[] {-1, 0, 60, MIN, MAX}) Due.is("word " + words[k], x.force(words[k], call, 0), k + 1);
        }
    }

    static void p10_callDoesNotMatter() {
        OneWire x = new OneWire();
        Due.rule(x, "dues 1;work 2;long 3;cords 4;near 5", 0);
        int[] words = {DUES, WORK, LONG, CORDS, NEAR};
        for (int k = 0; k < 5; k++) {
            for (int call : new int[] {-1, 0, 60, MIN, MAX}) Due.is("word " + words[k], x.why(words[k], call, 0), k);
        }
    }

    // BAD: day
    static void p09_dayTooSmallOrTooLarge() {
        OneWire x = calls();
        for (int word = 0; word < 7; word++) {
            for (int day : new int[] {-1, 401, MIN, MAX}) Due.is("word " + word + ", day " + day, x.force(word, 0, day), BAD);
        }
    }

    static void p10_dayTooSmallOrTooLarge() {
        OneWire x = calls();
        for (int word = 0; word < 7; word++) {
            for (int day : new int[] {-1, 401, MIN, MAX}) Due.is("word " + word + ", day " + day, x.why(word, 0, day), BAD);
        }
    }

    static void p09_firstAndLastDay() {
        OneWire x = calls();
        int[] usual = {50, 10, 2, 5, 2, 0, 40};
        for (int word = 0; word < 7; word++) {
            Due.is("day 0", x.force(word, 0, 0), usual[word]);
            Due.is("day 400", x.force(word, 0, 400), usual[word]);
        }
    }

    static void p10_firstAndLastDay() {
        OneWire x = calls();
        for (int word = 0; word < 7; word++) {
            Due.is("day 0", x.why(word, 0, 0), -5);
            Due.is("day 400", x.why(word, 0, 400), -5);
        }
    }

    static void p09_noneAheadOfBad() {
        OneWire x = calls();
        Due.is("word and day", x.force(7, 0, 401), NONE);
        Due.is("call and day", x.force(FIRST, 4, -1), NONE);
        Due.is("call and day", x.force(TELL, -1, 401), NONE);
        Due.is("no word's call", x.force(DUES, -1, 401), BAD);
    }

    static void p10_noneAheadOfBad() {
        OneWire x = calls();
        Due.is("word and day", x.why(-1, 0, -1), NONE);
        Due.is("call and day", x.why(FIRST, -1, 401), NONE);
        Due.is("call and day", x.why(TELL, 4, -1), NONE);
        Due.is("no word's call", x.why(NEAR, 60, -1), BAD);
    }

    // each from a DAY on
    static void p09_fromADayOn() {
        OneWire x = new OneWire();
        Due.rule(x, "dues 7", 100);
        Due.is("the day ahead", x.force(DUES, 0, 99), 10);
        Due.is("that day", x.force(DUES, 0, 100), 7);
        Due.is("the next one", x.force(DUES, 0, 101), 7);
        Due.is("the last one", x.force(DUES, 0, 400), 7);
    }

    static void p10_fromADayOn() {
        OneWire x = new OneWire();
        Due.rule(x, "dues 7", 100);
        Due.is("the day ahead", x.why(DUES, 0, 99), -5);
        Due.is("that day", x.why(DUES, 0, 100), 0);
    }

    // the last CLAUSE of it in the RULE
    static void p09_lastClause() {
        OneWire x = new OneWire();
        Due.rule(x, "dues 3;work 9;dues 2;dues 1;work 8", 0);
        Due.is("dues", x.force(DUES, 0, 0), 1);
        Due.is("work", x.force(WORK, 0, 0), 8);
    }

    // 100 times the RULE, and its place
    static void p10_ruleAndPlace() {
        OneWire x = new OneWire();
        for (int k = 0; k < 9; k++) Due.rule(x, "work 1", k);
        Due.rule(x, "dues 1;dues 2;dues 3;dues 4;dues 5;dues 6;dues 7;dues 8", 9);
        Due.is("rule 0, place 0", x.why(WORK, 0, 0), 0);
        Due.is("rule 8, place 0", x.why(WORK, 0, 9), 800);
        Due.is("rule 9, place 7", x.why(DUES, 0, 9), 907);
    }

    // of the greatest DAY .. of those in force then
    static void p09_greatestDay() {
        OneWire x = new OneWire();
        Due.rule(x, "dues 3", 30);
        Due.rule(x, "dues 1", 10);
        Due.rule(x, "dues 2", 20);
        int[][] want = {{9, 10}, {10, 1}, {19, 1}, {20, 2}, {29, 2}, {30, 3}, {400, 3}};
        for (int[] w : want) Due.is("on day " + w[0], x.force(DUES, 0, w[0]), w[1]);
    }

    // (of like ones the greatest number)
    static void p09_greatestNumber() {
        OneWire x = new OneWire();
        Due.rule(x, "dues 1", 10);
        Due.rule(x, "dues 2", 10);
        Due.rule(x, "dues 3", 9);
        Due.is("on day 10", x.force(DUES, 0, 10), 2);
        Due.is("on day 9", x.force(DUES, 0, 9), 3);
    }

    static void p10_greatestNumber() {
        OneWire x = new OneWire();
        Due.rule(x, "dues 1", 10);
        Due.rule(x, "dues 1", 10);
        Due.rule(x, "dues 1", 9);
        Due.is("on day 10", x.why(DUES, 0, 10), 100);
        Due.is("on day 9", x.why(DUES, 0, 9), 200);
    }

    // that have it
    static void p09_thatHaveIt() {
        OneWire x = new OneWire();
        Due.rule(x, "dues 1;near 1", 10);
        Due.rule(x, "near 2", 10);
        Due.rule(x, "near 3", 20);
        Due.is("dues of the only one", x.force(DUES, 0, 400), 1);
        Due.is("near", x.force(NEAR, 0, 19), 2);
        Due.is("near", x.force(NEAR, 0, 20), 3);
    }

    // of first: the last one whose E holds for the CALL in that RULE
    static void p09_firstThatHolds() {
        OneWire x = calls();
        Due.rule(x, "first 1 k=1|k=2;first 2 k=1;first 3 k=3", 0);
        Due.is("a ring", x.force(FIRST, 0, 0), 2);
        Due.is("a through", x.force(FIRST, 1, 0), 1);
        Due.is("an out", x.force(FIRST, 2, 0), 3);
    }

    static void p10_firstThatHolds() {
        OneWire x = calls();
        Due.rule(x, "first 1 k=1|k=2;first 2 k=1;first 3 k=3", 0);
        Due.is("a ring", x.why(FIRST, 0, 0), 1);
        Due.is("a through", x.why(FIRST, 1, 0), 0);
        Due.is("an out", x.why(FIRST, 2, 0), 2);
    }

    // (if none does there: of the next such RULE, and so on)
    static void p10_firstOfTheNextRule() {
        OneWire x = calls();
        Due.rule(x, "first 1 k=2", 5);
        Due.rule(x, "first 2 k=1;near 1", 7);
        Due.rule(x, "first 3 k=3", 9);
        Due.rule(x, "first 4 k=9", 9);
        Due.is("out, by a like day's", x.why(FIRST, 2, 9), 200);
        Due.is("a ring, by the next but one", x.why(FIRST, 0, 9), 100);
        Due.is("a through, by the first", x.why(FIRST, 1, 9), 0);
        Due.is("to all, by none", x.why(FIRST, 3, 9), -5);
        Due.is("a ring on day 6", x.why(FIRST, 0, 6), -5);
    }

    static void p09_firstOfTheNextRule() {
        OneWire x = calls();
        Due.rule(x, "first 1 k=2", 5);
        Due.rule(x, "first 2 k=1;near 1", 7);
        Due.rule(x, "first 3 k=3", 9);
        Due.is("out", x.force(FIRST, 2, 9), 3);
        Due.is("a ring", x.force(FIRST, 0, 9), 2);
        Due.is("a through", x.force(FIRST, 1, 9), 1);
        Due.is("to all", x.force(FIRST, 3, 9), 50);
    }

    // What rules: also nothing, or as much as a number can be
    static void p09_leastAndMost() {
        OneWire x = calls();
        Due.rule(x, "first 0 k=1;first 999 k=2;dues 0;work 999;long 0;cords 0;near 0", 0);
        Due.is("first 0", x.force(FIRST, 0, 0), 0);
        Due.is("first 999", x.force(FIRST, 1, 0), 999);
        Due.is("dues 0", x.force(DUES, 0, 0), 0);
        Due.is("work 999", x.force(WORK, 0, 0), 999);
        Due.is("long 0", x.force(LONG, 0, 0), 0);
        Due.is("cords 0", x.force(CORDS, 0, 0), 0);
        Due.is("near 0", x.force(NEAR, 0, 0), 0);
    }

    // tell: nobody's is told
    static void p09_nobodysIsTold() {
        OneWire x = calls();
        Due.rule(x, "first 1 k=1;dues 1", 0);
        for (int call = 0; call < 4; call++) Due.is("call " + call, x.force(TELL, call, 400), 0);
    }

    // of tell 1, 0
    static void p09_tellHoldsOrNot() {
        OneWire x = calls();
        Due.rule(x, "tell k=1", 3);
        Due.is("it holds", x.force(TELL, 0, 3), 1);
        Due.is("it does not", x.force(TELL, 1, 3), 0);
        Due.is("the day ahead", x.force(TELL, 0, 2), 0);
    }

    // of tell the last CLAUSE of it, though its E does not hold
    static void p09_lastTellOfTheRule() {
        OneWire x = calls();
        Due.rule(x, "tell k=2", 3);
        Due.rule(x, "tell k=1;tell k=3", 3);
        Due.is("not by the one ahead of it", x.force(TELL, 0, 3), 0);
        Due.is("not by the rule ahead of it", x.force(TELL, 1, 3), 0);
        Due.is("by it", x.force(TELL, 2, 3), 1);
    }

    // (of tell: that which holds, or not)
    static void p10_tellHoldsOrNot() {
        OneWire x = calls();
        Due.rule(x, "tell k=2", 3);
        Due.rule(x, "tell k=1;tell k=3", 3);
        for (int call = 0; call < 4; call++) Due.is("call " + call, x.why(TELL, call, 3), 101);
        Due.is("the day ahead", x.why(TELL, 0, 2), -5);
    }

    // -5: none
    static void p10_none() {
        OneWire x = calls();
        Due.rule(x, "near 1", 0);
        for (int word = 0; word < 6; word++) Due.is("word " + word, x.why(word, 0, 400), -5);
        Due.is("near", x.why(NEAR, 0, 0), 0);
    }

    /** Of which calls a text tells, as bits. */
    private static void tells(String text, int want) {
        OneWire x = calls();
        Due.pass(x, 199);
        x.ring(3, 2, 1);
        Due.pass(x, 1);
        x.ring(3, 4, 1);
        Due.is(text, Due.rule(x, "tell " + text, 0), 0);
        int bits = 0;
        for (int call = 0; call < 6; call++) bits |= x.force(TELL, call, 0) << call;
        Due.is(text, bits, want);
    }

    // k KIND of the CALL: not one that it is under
    static void p09_kindOfTheCall() {
        tells("k=0", 0);
        tells("k=1", 1 | 16 | 32);
        tells("k=2", 2);
        tells("k=3", 4);
        tells("k=4", 8);
        tells("k=5", 0);
    }

    // l LINE (of the FARM that calls)
    static void p09_lineOfTheCall() {
        tells("l=0", 4);
        tells("l=1", 1 | 8 | 16 | 32);
        tells("l=2", 0);
        tells("l=3", 2);
        tells("l=4", 0);
    }

    // f FARM that calls
    static void p09_farmThatCalls() {
        tells("f=0", 4);
        tells("f=1", 2);
        tells("f=2", 1);
        tells("f=11", 8);
        tells("f=12", 0);
    }

    // g FARM that is called (12: none)
    static void p09_farmThatIsCalled() {
        tells("g=0", 2);
        tells("g=2", 16);
        tells("g=11", 1);
        tells("g=12", 4 | 8);
        tells("g=13", 0);
    }

    // h MINUTE with < or > and a number: that at which it was asked, 0 to 99
    static void p09_minuteOfTheCall() {
        tells("h<0", 0);
        tells("h<1", 1 | 2 | 4 | 8 | 32);
        tells("h<99", 1 | 2 | 4 | 8 | 32);
        tells("h<100", 63);
        tells("h>0", 16);
        tells("h>98", 16);
        tells("h>99", 0);
        tells("h>999", 0);
        tells("h<999", 63);
    }

    // E: T, or T|E. T: F, or F&T: & binds more than |
    static void p09_andAheadOfOr() {
        tells("k=3|k=1&f=2", 1 | 4);
        tells("k=1&f=2|k=3", 1 | 4);
        tells("(k=3|k=1)&f=2", 1);
        tells("k=1&(f=2|k=3)", 1);
    }

    // !F: of the F alone that is behind it
    static void p09_notOfOneF() {
        tells("!k=1", 2 | 4 | 8);
        tells("!k=1&l=0", 4);
        tells("!k=1|f=2", 1 | 2 | 4 | 8);
        tells("!(k=1|l=0)", 2 | 8);
        tells("!!k=1", 1 | 16 | 32);
        tells("!!!!!k=1", 2 | 4 | 8);
    }

    // as many as a text can have open, and as many as it can join
    static void p09_deepAndLong() {
        tells("!(!(!k=1))", 2 | 4 | 8);
        tells("(k=1&(f=2|(f=3&(h>9&(g=2)))))", 1 | 16);
        tells("k=9" + "|k=9".repeat(27) + "|k=2", 2);
        tells("k=2" + "|k=9".repeat(28), 2);
        tells("k=1" + "&k=1".repeat(27) + "&f=2", 1);
        tells("f=2" + "&k=1".repeat(28), 1);
    }

    // a CALL that is regarded is that which is asked for, not the one ahead
    static void p09_oneCallThenAnother() {
        OneWire x = calls();
        Due.rule(x, "tell f=2&g=11;first 7 f=0&g=12", 0);
        for (int time = 0; time < 2; time++) {
            Due.is("tell of 0", x.force(TELL, 0, 0), 1);
            Due.is("first of 2", x.force(FIRST, 2, 0), 7);
            Due.is("tell of 2", x.force(TELL, 2, 0), 0);
            Due.is("first of 0", x.force(FIRST, 0, 0), 50);
            Due.is("why of 2", x.why(FIRST, 2, 0), 1);
            Due.is("why of 0", x.why(FIRST, 0, 0), -5);
        }
    }

    public static void main(String[] args) {
        Edges.run(EdgesRulesTest.class, 7, 10);
    }
}
