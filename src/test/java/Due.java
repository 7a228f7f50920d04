/** What the project's tests share: answers that are due, and texts that are fed. */
final class Due {
    private static int wrong = 0;
    private static int right = 0;
    private static String test = "";

    private Due() {
    }

    /** The name of the test that looks at answers from here on. */
    static void test(String name) {
        test = name.isEmpty() ? "" : name + ": ";
    }

    static void is(String call, long got, long want) {
        if (got == want) {
            right++;
        } else {
            wrong++;
            if (wrong <= 50) System.out.println(test + call + " answered " + got + ", due is " + want);
        }
    }

    /** How many answers were looked at. */
    static int looked() {
        return right + wrong;
    }

    /** Feeds a text by groups of eight bytes. */
    static void feed(OneWire wire, String text) {
        for (int at = 0; at < text.length(); at += 8) {
            int n = Math.min(8, text.length() - at);
            long w = 0;
            for (int k = 0; k < n; k++) w = w << 8 | text.charAt(at + k);
            wire.feed(w, n);
        }
    }

    /** Feeds a text and makes it a rule. */
    static int rule(OneWire wire, String text, int day) {
        feed(wire, text);
        return wire.text(day);
    }

    static void pass(OneWire wire, int minutes) {
        for (int left = minutes; left > 0; left -= 200) wire.minute(Math.min(200, left));
    }

    static void end() {
        System.out.println(right + " answers as due, " + wrong + " not");
        if (wrong > 0 || right == 0) System.exit(1);
    }
}
