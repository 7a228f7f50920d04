import java.io.ByteArrayInputStream;
import java.io.ByteArrayOutputStream;
import java.io.IOException;
import java.io.ObjectInputStream;
import java.io.ObjectOutputStream;
import java.io.Serializable;
import java.util.ArrayList;
import java.util.List;
import java.util.TreeSet;

/** The document once more, in the slowest and plainest way, to compare answers with. */
final class Model {
    private static final String NUMBER = "(0|[1-9][0-9]{0,2})";

    private static final class Farm implements Serializable {
        private static final long serialVersionUID = 1;
        int line, post, ears, came;
        String code = "";
    }

    private static final class Rule implements Serializable {
        private static final long serialVersionUID = 1;
        String text;
        int day, number;
    }

    private static final class Call implements Serializable {
        private static final long serialVersionUID = 1;
        int number, kind, from, to, minutes, asked, on = -1, state;
        TreeSet<Integer> listeners = new TreeSet<>();
    }

    private static final class State implements Serializable {
        private static final long serialVersionUID = 1;
        int now;
        String tape = "";
        ArrayList<Farm> farms = new ArrayList<>();
        ArrayList<Rule> rules = new ArrayList<>();
        ArrayList<Call> calls = new ArrayList<>();
        TreeSet<String> down = new TreeSet<>();
        ArrayList<int[]> told = new ArrayList<>();
        ArrayList<String> maybe = new ArrayList<>();
        ArrayList<int[]> paid = new ArrayList<>();
        TreeSet<String> quarrels = new TreeSet<>();
        ArrayList<int[]> meetings = new ArrayList<>();
    }

    private State s = new State();
    private byte[] kept = null;

    private static boolean in(int n, int low, int high) {
        return low <= n && n <= high;
    }

    private boolean isFarm(int n) {
        return in(n, 0, s.farms.size() - 1);
    }

    private boolean isCall(int n) {
        return in(n, 0, s.calls.size() - 1);
    }

    int farm(int line, int post, int ears) {
        if (!in(line, 0, 3) || !in(post, 0, 9)) return -1;
        if (!in(ears, 0, 9)) return -2;
        if (s.farms.size() == 12) return -4;
        Farm f = new Farm();
        f.line = line;
        f.post = post;
        f.ears = ears;
        f.came = s.now / 100;
        s.farms.add(f);
        return s.farms.size() - 1;
    }

    private static int number(String code) {
        int n = 16 * code.length();
        for (int k = 0; k < code.length(); k++) if (code.charAt(k) == 'L') n += 1 << k;
        return n;
    }

    private static String letters(int signs, int bits) {
        StringBuilder t = new StringBuilder();
        for (int k = 0; k < signs; k++) t.append((bits & 1 << k) != 0 ? 'L' : 's');
        return t.toString();
    }

    int code(int farm, int signs, int bits) {
        if (!isFarm(farm)) return -1;
        if (!in(signs, 0, 4)) return -2;
        if (!in(bits, 0, (int) Math.pow(2, signs) - 1)) return -2;
        int ahead = number(s.farms.get(farm).code);
        s.farms.get(farm).code = letters(signs, bits);
        return ahead;
    }

    private static int likeness(String a, String b) {
        if (a.isEmpty() || b.isEmpty()) return 0;
        if (a.equals(b)) return 9;
        if (a.length() == b.length()) {
            int m = 3;
            for (int k = 0; k < a.length(); k++) if (a.charAt(k) != b.charAt(k)) m--;
            return m < 0 ? 0 : m;
        }
        if (a.length() < b.length()) return likeness(b, a);
        if (a.length() > b.length() + 1) return 0;
        for (int k = 0; k < a.length(); k++) if ((a.substring(0, k) + a.substring(k + 1)).equals(b)) return 2;
        return 0;
    }

    int like(int a, int b) {
        if (!isFarm(a) || !isFarm(b)) return -1;
        if (a == b) return -2;
        return likeness(s.farms.get(a).code, s.farms.get(b).code);
    }

    private static int together(List<String> codes) {
        int m = 0;
        for (int a = 0; a < codes.size(); a++) for (int b = a + 1; b < codes.size(); b++) m += likeness(codes.get(a), codes.get(b));
        return m;
    }

    int mistakes(int line) {
        if (!in(line, 0, 3)) return -1;
        List<String> codes = new ArrayList<>();
        for (Farm f : s.farms) if (f.line == line) codes.add(f.code);
        return together(codes);
    }

    private static final java.util.HashMap<Integer, int[]> BEST = new java.util.HashMap<>();

    /** Tries every row of codes: the mistakes and the row, or null. */
    private static int[] bestRow(int farms, int n) {
        int key = 10 * farms + n;
        if (BEST.containsKey(key)) return BEST.get(key);
        List<String> all = new ArrayList<>();
        for (int signs = 1; signs <= n; signs++) for (int bits = 0; bits < 1 << signs; bits++) all.add(letters(signs, bits));
        int[] best = null;
        int least = 1000, fewest = 1000;
        int rows = (int) Math.pow(all.size(), farms);
        for (int row = 0; row < rows; row++) {
            List<String> codes = new ArrayList<>();
            int rest = row, signs = 0;
            for (int k = 0; k < farms; k++) {
                String code = all.get(rest % all.size());
                if (codes.contains(code)) break;
                codes.add(0, code);
                signs += code.length();
                rest /= all.size();
            }
            if (codes.size() < farms) continue;
            int m = together(codes);
            if (m < least || m == least && signs < fewest) {
                least = m;
                fewest = signs;
                best = new int[farms + 1];
                best[0] = m;
                for (int k = 0; k < farms; k++) best[k + 1] = number(codes.get(k));
            }
        }
        BEST.put(key, best);
        return best;
    }

    int best(int line, int n, int i) {
        if (!in(line, 0, 3)) return -1;
        int farms = 0;
        for (Farm f : s.farms) if (f.line == line && farms < 5) farms++;
        if (i < -1 || i >= farms) return -1;
        if (!in(n, 1, 3)) return -2;
        int[] row = bestRow(farms, n);
        return row == null ? -5 : row[i + 1];
    }

    int feed(long w, int n) {
        if (!in(n, 1, 8)) return -2;
        if (s.tape.length() + n > 120) return -4;
        StringBuilder t = new StringBuilder();
        for (int k = 0; k < n; k++) t.insert(0, (char) (w >>> 8 * k & 255));
        s.tape += t;
        return s.tape.length();
    }

    private static List<String> split(String text, char by) {
        List<String> parts = new ArrayList<>();
        int open = 0, from = 0;
        for (int k = 0; k < text.length(); k++) {
            char c = text.charAt(k);
            if (c == '(') open++;
            if (c == ')') open--;
            if (c == by && open == 0) {
                parts.add(text.substring(from, k));
                from = k + 1;
            }
        }
        parts.add(text.substring(from));
        return parts;
    }

    private static boolean isE(String e, int open) {
        if (open > 5) return false;
        for (String t : split(e, '|')) for (String f : split(t, '&')) if (!isF(f, open)) return false;
        return true;
    }

    private static boolean isF(String f, int open) {
        if (open > 5) return false;
        if (f.startsWith("!")) return open < 5 && isF(f.substring(1), open + 1);
        if (f.startsWith("(")) {
            int depth = 0;
            for (int k = 0; k < f.length(); k++) {
                if (f.charAt(k) == '(') depth++;
                if (f.charAt(k) == ')') depth--;
                if (depth == 0 && k < f.length() - 1) return false;
            }
            return depth == 0 && open < 5 && isE(f.substring(1, f.length() - 1), open + 1);
        }
        return f.matches("[klfg]=" + NUMBER + "|h[<>]" + NUMBER);
    }

    private static boolean isRule(String text) {
        String[] clauses = text.split(";", -1);
        if (clauses.length > 8) return false;
        for (String c : clauses) {
            boolean ok = c.matches("(dues|work|long|cords|near) " + NUMBER);
            if (c.startsWith("tell ")) ok = isE(c.substring(5), 0);
            if (c.matches("(?s)first " + NUMBER + " .*")) ok = isE(c.substring(c.indexOf(' ', 6) + 1), 0);
            if (!ok) return false;
        }
        return true;
    }

    private static boolean canGoOn(String text) {
        List<String> ends = new ArrayList<>();
        for (String w : new String[] {"first 1 k=1", "tell k=1", "dues 1", "work 1", "long 1", "cords 1", "near 1"}) {
            for (int k = 0; k <= w.length(); k++) ends.add(w.substring(k));
        }
        ends.add("<1");
        for (String e : ends) {
            String t = text + e;
            for (int k = 0; k <= 5; k++) {
                if (isRule(t)) return true;
                t += ")";
            }
        }
        return false;
    }

    private static int fault(String text) {
        if (isRule(text)) return -1;
        // of so many bytes some rule begins so, of one more none
        int can = 0, cannot = text.length() + 1;
        while (cannot - can > 1) {
            int middle = (can + cannot) / 2;
            if (canGoOn(text.substring(0, middle))) can = middle;
            else cannot = middle;
        }
        return can;
    }

    int text(int day) {
        if (!in(day, 0, 400)) return -2;
        if (s.rules.size() == 10) return -4;
        int fault = fault(s.tape);
        if (fault < 0) keep(day);
        s.tape = "";
        return fault < 0 ? s.rules.size() - 1 : -10 - fault;
    }

    private void keep(int day) {
        Rule r = new Rule();
        r.text = s.tape;
        r.day = day;
        r.number = s.rules.size();
        s.rules.add(r);
    }

    private boolean holds(String e, Call c) {
        for (String t : split(e, '|')) {
            boolean all = true;
            for (String f : split(t, '&')) if (!holdsF(f, c)) all = false;
            if (all) return true;
        }
        return false;
    }

    private boolean holdsF(String f, Call c) {
        if (f.startsWith("!")) return !holdsF(f.substring(1), c);
        if (f.startsWith("(")) return holds(f.substring(1, f.length() - 1), c);
        int n = Integer.parseInt(f.substring(2));
        switch (f.substring(0, 2)) {
            case "k=": return c.kind == n;
            case "l=": return s.farms.get(c.from).line == n;
            case "f=": return c.from == n;
            case "g=": return c.to == n;
            case "h<": return c.asked % 100 < n;
            default: return c.asked % 100 > n;
        }
    }

    private static final String[] WORDS = {"first", "dues", "work", "long", "cords", "tell", "near"};
    private static final int[] USUAL = {50, 10, 2, 5, 2, 0, 40};

    /** Rule, place and what it says; or the usual. */
    private int[] rules(int word, Call c, int day) {
        List<Rule> force = new ArrayList<>();
        for (Rule r : s.rules) if (r.day <= day) force.add(r);
        force.sort((a, b) -> a.day != b.day ? b.day - a.day : b.number - a.number);
        for (Rule r : force) {
            String[] clauses = r.text.split(";");
            for (int k = clauses.length - 1; k >= 0; k--) {
                String[] parts = clauses[k].split(" ");
                if (!parts[0].equals(WORDS[word])) continue;
                if (word == 5) return new int[] {r.number, k, holds(parts[1], c) ? 1 : 0};
                if (word == 0 && !holds(parts[2], c)) continue;
                return new int[] {r.number, k, Integer.parseInt(parts[1])};
            }
        }
        return new int[] {-1, -1, USUAL[word]};
    }

    private Call callFor(int word, int call) {
        return word == 0 || word == 5 ? s.calls.get(call) : null;
    }

    private boolean noWord(int word, int call) {
        return !in(word, 0, 6) || (word == 0 || word == 5) && !isCall(call);
    }

    int force(int word, int call, int day) {
        if (noWord(word, call)) return -1;
        if (!in(day, 0, 400)) return -2;
        return rules(word, callFor(word, call), day)[2];
    }

    int why(int word, int call, int day) {
        if (noWord(word, call)) return -1;
        if (!in(day, 0, 400)) return -2;
        int[] by = rules(word, callFor(word, call), day);
        return by[0] < 0 ? -5 : 100 * by[0] + by[1];
    }

    private int ask(int kind, int from, int to, int minutes) {
        if (s.calls.size() == 60) return -4;
        Call c = new Call();
        c.number = s.calls.size();
        c.kind = kind;
        c.from = from;
        c.to = to;
        c.minutes = minutes;
        c.asked = s.now;
        s.calls.add(c);
        return c.number;
    }

    private boolean badMinutes(int minutes) {
        return minutes < 1 || minutes > 20 || minutes > rules(3, null, s.now / 100)[2];
    }

    int ring(int from, int to, int minutes) {
        if (!isFarm(from) || !isFarm(to)) return -1;
        if (from == to || badMinutes(minutes)) return -2;
        return ask(s.farms.get(from).line == s.farms.get(to).line ? 1 : 2, from, to, minutes);
    }

    int call(int kind, int from, int minutes) {
        if (!isFarm(from) || kind != 3 && kind != 4) return -1;
        if (badMinutes(minutes)) return -2;
        return ask(kind, from, 12, minutes);
    }

    private int rank(Call c, int day) {
        int rank = rules(0, c, day)[2];
        if (c.kind == 4) rank -= 20;
        if (c.kind == 3) rank += 5;
        return rank;
    }

    private int onLine(int line) {
        int bits = 0;
        for (int k = 0; k < s.farms.size(); k++) if (s.farms.get(k).line == line) bits += 1 << k;
        return bits;
    }

    private int loud(Call c) {
        Farm f = s.farms.get(c.from);
        int loud = 100 - 7 * c.listeners.size();
        if (c.kind == 1) loud -= 4 * Math.abs(f.post - s.farms.get(c.to).post);
        if (c.kind == 2) loud -= 4 * (f.post + 1 + s.farms.get(c.to).post + 1);
        if (c.kind == 3) loud -= 4 * (f.post + 1);
        if (c.kind == 4) {
            int far = 0;
            for (Farm g : s.farms) if (g.line == f.line && Math.abs(g.post - f.post) > far) far = Math.abs(g.post - f.post);
            loud -= 4 * far;
        }
        if (c.kind == 1 || c.kind == 2) loud += s.farms.get(c.to).ears;
        return loud < 0 ? 0 : loud;
    }

    int of(int call, int what) {
        if (!isCall(call) || !in(what, 0, 7)) return -1;
        Call c = s.calls.get(call);
        int costs = c.kind == 1 ? c.minutes : c.kind == 2 ? c.minutes + 2 : c.kind == 3 ? 3 * (c.minutes + 2) : 0;
        int holds = c.kind == 1 ? 1 : c.kind == 4 ? Integer.bitCount(onLine(s.farms.get(c.from).line)) : 2;
        int waited = (c.on < 0 ? s.now : c.on) - c.asked;
        int faint = loud(c) < rules(6, null, c.asked / 100)[2] ? 1 : 0;
        return new int[] {c.kind, c.state, rank(c, c.asked / 100), costs, holds, waited, loud(c), faint}[what];
    }

    int as(int call, int k) {
        if (!isCall(call) || !in(k, 0, 4)) return -1;
        Call c = s.calls.get(call);
        String above = new String[] {"0", "10", "20", "320", "410"}[c.kind];
        return above.contains("" + k) ? c.minutes : -6;
    }

    private TreeSet<String> wires(int from, int to) {
        TreeSet<String> way = new TreeSet<>();
        Farm a = s.farms.get(from);
        if (to != 12 && s.farms.get(to).line == a.line) {
            Farm b = s.farms.get(to);
            for (int k = 0; k < 10; k++) if (k > a.post != k > b.post) way.add(a.line + "/" + k);
        } else {
            for (int k = 0; k <= a.post; k++) way.add(a.line + "/" + k);
            if (to != 12) way.addAll(wires(to, 12));
        }
        return way;
    }

    private static boolean meet(TreeSet<String> a, TreeSet<String> b) {
        for (String x : a) if (b.contains(x)) return true;
        return false;
    }

    private boolean needs(Call c, int line) {
        return s.farms.get(c.from).line == line || c.to != 12 && s.farms.get(c.to).line == line;
    }

    private void pass() {
        for (Call c : s.calls) if (c.state == 1 && s.now >= c.on + c.minutes) c.state = 2;
        List<Call> queue = new ArrayList<>();
        for (Call c : s.calls) if (c.state == 0) queue.add(c);
        if (!queue.isEmpty()) {
            java.util.HashMap<Call, Integer> ranks = new java.util.HashMap<>();
            for (Call c : queue) ranks.put(c, rank(c, c.asked / 100));
            queue.sort((a, b) -> !ranks.get(a).equals(ranks.get(b)) ? ranks.get(a) - ranks.get(b) : a.number - b.number);
        }
        for (Call c : queue) {
            if (meet(wires(c.from, c.to), s.down)) {
                c.state = 3;
                continue;
            }
            boolean free = true;
            for (int line = 0; line < 4; line++) if (needs(c, line) && board(line, 0) >= 0) free = false;
            if ((c.kind == 2 || c.kind == 3) && board(0, 1) >= rules(4, null, s.now / 100)[2]) free = false;
            if (free) {
                c.state = 1;
                c.on = s.now;
            }
        }
        for (Call c : s.calls) if (c.state == 0 && s.now - c.asked >= 30) c.state = 3;
        s.now++;
    }

    int minute(int n) {
        if (!in(n, 1, 200) || (s.now + n) / 100 > 400) return -2;
        for (int k = 0; k < n; k++) pass();
        return s.now;
    }

    int board(int line, int what) {
        if (what == 1) {
            int cords = 0;
            for (Call c : s.calls) if (c.state == 1 && (c.kind == 2 || c.kind == 3)) cords++;
            return cords;
        }
        if (what != 0 || !in(line, 0, 3)) return -1;
        for (Call c : s.calls) if (c.state == 1 && needs(c, line)) return c.number;
        return -1;
    }

    private int inCall(Call c) {
        if (c.kind == 4) return onLine(s.farms.get(c.from).line);
        return c.kind == 3 ? 1 << c.from : 1 << c.from | 1 << c.to;
    }

    int listen(int farm, int call) {
        if (!isFarm(farm) || !isCall(call)) return -1;
        Call c = s.calls.get(call);
        boolean is = (inCall(c) & 1 << farm) != 0;
        if (c.state != 1 || is || !needs(c, s.farms.get(farm).line) || c.listeners.contains(farm)) return -3;
        c.listeners.add(farm);
        return c.listeners.size();
    }

    int heard(int call) {
        if (!isCall(call)) return -1;
        Call c = s.calls.get(call);
        if (c.state == 0 || c.state == 3) return 0;
        int bits = inCall(c);
        for (int f : c.listeners) bits |= 1 << f;
        return bits;
    }

    int down(int line, int wire, boolean so) {
        if (!in(line, 0, 3) || !in(wire, 0, 9)) return -1;
        String w = line + "/" + wire;
        int was = s.down.contains(w) ? 1 : 0;
        if (so) s.down.add(w);
        else s.down.remove(w);
        return was;
    }

    int reach(int from, int to) {
        if (!isFarm(from) || !isFarm(to) && to != 12) return -1;
        return meet(wires(from, to), s.down) ? 0 : 1;
    }

    int told(int from, int to, boolean could) {
        if (!isFarm(from) || !isFarm(to) && to != 12) return -1;
        if (from == to) return -2;
        if (s.told.size() == 20) return -4;
        s.told.add(new int[] {from, to, could ? 1 : 0});
        return s.told.size();
    }

    int maybe(int line, int wire) {
        if (!in(line, 0, 3) || !in(wire, 0, 9)) return -1;
        if (s.maybe.contains(line + "/" + wire)) return -3;
        if (s.maybe.size() == 10) return -4;
        s.maybe.add(line + "/" + wire);
        return s.maybe.size();
    }

    int storm(int what) {
        if (!in(what, 0, 1)) return -1;
        int sets = 1 << s.maybe.size();
        for (int size = 0; size <= 10; size++) {
            int fewest = -1, rivals = 0;
            for (int set = 0; set < sets; set++) {
                if (Integer.bitCount(set) != size) continue;
                TreeSet<String> down = new TreeSet<>();
                for (int k = 0; k < s.maybe.size(); k++) if ((set >> k & 1) == 1) down.add(s.maybe.get(k));
                boolean all = true;
                for (int[] t : s.told) if (meet(wires(t[0], t[1]), down) == (t[2] == 1)) all = false;
                if (all && fewest < 0) fewest = set;
                if (all) rivals++;
            }
            if (fewest >= 0) return what == 0 ? fewest : rivals;
        }
        return -5;
    }

    int pay(int farm, int what, int n) {
        if (!isFarm(farm) || !in(what, 0, 1)) return -1;
        if (!in(n, 1, 999)) return -2;
        if (s.paid.size() == 60) return -4;
        s.paid.add(new int[] {farm, what, n, s.now / 100});
        int all = 0;
        for (int[] p : s.paid) if (p[0] == farm && p[1] == what) all += p[2];
        return all;
    }

    int behind(int farm, int day) {
        if (!isFarm(farm)) return -1;
        if (!in(day, 0, s.now / 100)) return -2;
        int came = s.farms.get(farm).came, sum = 0;
        if (day < came) return 0;
        for (int days = 30; came + days <= day; days += 30) {
            sum += rules(1, null, came + days - 1)[2] + 3 * rules(2, null, came + days - 1)[2];
        }
        for (int[] p : s.paid) if (p[0] == farm && p[3] <= day) sum -= p[1] == 0 ? p[2] : 3 * p[2];
        return sum;
    }

    int since(int farm) {
        if (!isFarm(farm)) return -1;
        int day = s.now / 100, first = -5;
        while (day >= 0 && behind(farm, day) > 0) {
            first = day;
            day--;
        }
        return first;
    }

    int town(int farm, int from, int to) {
        if (!isFarm(farm)) return -1;
        if (!in(from, 0, 400) || !in(to, 0, 400) || from > to) return -2;
        int cost = 0, nth = 0;
        for (Call c : s.calls) {
            if (c.kind != 3 || c.from != farm || c.state != 1 && c.state != 2) continue;
            if (c.asked / 100 < from || c.asked / 100 > to) continue;
            for (int k = 0; k < c.minutes; k++) {
                nth++;
                cost += nth <= 10 ? 4 : nth <= 20 ? 3 : 2;
            }
        }
        return cost;
    }

    int quarrel(int a, int b) {
        if (!isFarm(a) || !isFarm(b)) return -1;
        if (a == b) return -2;
        return s.quarrels.add(Math.min(a, b) + "/" + Math.max(a, b)) ? 1 : 0;
    }

    int divide(int n, int m, int i) {
        if (i < -1 || i >= 0 && i >= n) return -1;
        if (!in(n, 1, 7) || n > s.farms.size() || !in(m, 1, 3)) return -2;
        int rows = (int) Math.pow(m, n), least = -1, best = -1;
        for (int row = 0; row < rows; row++) {
            int waits = 0;
            for (int a = 0; a < n && waits >= 0; a++) {
                for (int b = a + 1; b < n && waits >= 0; b++) {
                    if (line(row, n, m, a) != line(row, n, m, b)) {
                        for (Call c : s.calls) if (c.from == a && c.to == b || c.from == b && c.to == a) waits++;
                    } else if (s.quarrels.contains(a + "/" + b)) {
                        waits = -1;
                    } else {
                        waits++;
                    }
                }
            }
            if (waits >= 0 && (least < 0 || waits < least)) {
                least = waits;
                best = row;
            }
        }
        return best < 0 ? -5 : i < 0 ? least : line(best, n, m, i);
    }

    private static int line(int row, int n, int m, int farm) {
        int rest = row;
        for (int k = n - 1; k > farm; k--) rest /= m;
        return rest % m;
    }

    int vote(int came, int fors, int on) {
        if (!in(on, -1, s.meetings.size() - 1)) return -1;
        if (came < 0 || came >> s.farms.size() != 0) return -2;
        if (fors < 0 || fors > Integer.bitCount(came)) return -2;
        if (s.meetings.size() == 10) return -4;
        s.meetings.add(new int[] {Integer.bitCount(came), fors, on, s.farms.size(), 0});
        return s.meetings.size() - 1;
    }

    int nought(int meeting) {
        if (!in(meeting, 0, s.meetings.size() - 1)) return -1;
        int[] m = s.meetings.get(meeting);
        int was = m[4];
        m[4] = 1;
        return 1 - was;
    }

    private boolean counts(int meeting) {
        int[] m = s.meetings.get(meeting);
        boolean own = m[0] >= m[3] / 2.0 && m[1] > m[0] / 2.0 && m[4] == 0;
        return own && (m[2] < 0 || counts(m[2]));
    }

    int counting() {
        int bits = 0;
        for (int k = 0; k < s.meetings.size(); k++) if (counts(k)) bits += 1 << k;
        return bits;
    }

    int tried(int what, int call) {
        if (!in(what, 0, 1) || what == 0 && !isCall(call)) return -1;
        int fault = fault(s.tape), day = s.now / 100, answer = 0;
        if (fault < 0) {
            keep(day);
            if (what == 0) answer = rank(s.calls.get(call), day);
            else for (Call c : s.calls) answer += rules(5, c, day)[2];
            s.rules.remove(s.rules.size() - 1);
        }
        s.tape = "";
        return fault < 0 ? answer : -10 - fault;
    }

    int image() {
        try {
            ByteArrayOutputStream bytes = new ByteArrayOutputStream();
            new ObjectOutputStream(bytes).writeObject(s);
            kept = bytes.toByteArray();
        } catch (IOException e) {
            throw new IllegalStateException(e);
        }
        return s.now;
    }

    int undo() {
        if (kept == null) return -3;
        try {
            s = (State) new ObjectInputStream(new ByteArrayInputStream(kept)).readObject();
        } catch (IOException | ClassNotFoundException e) {
            throw new IllegalStateException(e);
        }
        return s.now;
    }

    int count(int what) {
        if (!in(what, 0, 8)) return -1;
        int[] states = new int[4];
        for (Call c : s.calls) states[c.state]++;
        return new int[] {s.farms.size(), s.rules.size(), s.calls.size(), s.now, states[0], states[1], states[3],
            s.tape.length(), s.meetings.size()}[what];
    }
}
