import java.util.ArrayList;
import java.util.Arrays;
import java.util.List;
import java.util.Random;
import java.util.Set;
import java.util.TreeSet;

/** Random runs of calls, each answer held against a slow model that follows the document's words. */
public final class ModelTests {
    private static final int LOW = -1000000000;
    private static final int BEYOND = LOW - 1;
    private static final int NONE = LOW - 2;
    private static final int STATE = LOW - 3;
    private static final int FULL = LOW - 4;
    private static final int KIND = LOW - 5;
    private static final int RUNS = 100;
    private static final int CALLS = 500;

    private static int wrong = 0;

    // ---- VOICES, by Java's own super

    private static class Man {
        int n;
        int m;
        List<Integer> trace = new ArrayList<>();
        int looks(int x) { trace.add(10); return x + n; }
        int thinks(int x) { trace.add(11); return looks(x) * 2; }
        int says(int x) { trace.add(12); return x - m; }
        int tells(int x) { trace.add(13); return thinks(x) ^ says(x); }
    }
    private static class Hasty extends Man {
        @Override int thinks(int x) { trace.add(20); return super.thinks(x) - says(1); }
    }
    private static class Slow extends Man {
        @Override int looks(int x) { trace.add(30); return super.looks(x) * 3; }
    }
    private static class Silent extends Man {
        @Override int says(int x) { trace.add(40); return -super.says(x); }
    }
    private static final class Bold extends Hasty {
        @Override int thinks(int x) { trace.add(50); return super.thinks(x + 1); }
    }
    private static final class Last extends Slow {
        @Override int tells(int x) { trace.add(60); return super.tells(x) - looks(2); }
    }
    private static final class Blind extends Silent {
        @Override int says(int x) { trace.add(70); return super.says(x) ^ n; }
        @Override int tells(int x) { trace.add(71); return thinks(x) - super.tells(x); }
    }

    private static Man manOf(int kind) {
        Man[] all = {new Man(), new Hasty(), new Slow(), new Silent(), new Bold(), new Last(), new Blind()};
        return all[kind];
    }

    // ---- TEXTS, by all ways to read them

    /** All ends that a part of the grammar can have from a place on. */
    private static Set<Integer> ends(char part, String s, int from, int opened, String names) {
        Set<Integer> found = new TreeSet<>();
        switch (part) {
            case 'T': return chain('A', "|", 99, s, from, opened, names);
            case 'A': return chain('B', "&", 99, s, from, opened, names);
            case 'B': return chain('S', "<=>", 1, s, from, opened, names);
            case 'S': return chain('P', "+-", 99, s, from, opened, names);
            case 'P': return chain('Q', "*/%", 99, s, from, opened, names);
            default: break;
        }
        for (int k = 1; k <= 4 && from + k <= s.length() && Character.isDigit(s.charAt(from + k - 1)); k++) {
            found.add(from + k);
        }
        if (from >= s.length()) return found;
        char c = s.charAt(from);
        if (names.indexOf(c) >= 0) found.add(from + 1);
        if (c == '!' && opened < 5) found.addAll(ends('Q', s, from + 1, opened + 1, names));
        if (c == '(' && opened < 5) {
            for (int e : ends('T', s, from + 1, opened + 1, names)) {
                if (e < s.length() && s.charAt(e) == ')') found.add(e + 1);
            }
        }
        return found;
    }

    private static Set<Integer> chain(char part, String signs, int most, String s, int from, int opened, String names) {
        Set<Integer> all = new TreeSet<>();
        Set<Integer> latest = ends(part, s, from, opened, names);
        for (int k = 0; k <= most && !latest.isEmpty(); k++) {
            all.addAll(latest);
            Set<Integer> more = new TreeSet<>();
            for (int e : latest) {
                if (e < s.length() && signs.indexOf(s.charAt(e)) >= 0) more.addAll(ends(part, s, e + 1, opened, names));
            }
            latest = more;
        }
        return all;
    }

    private static boolean isText(String s, String names) {
        return ends('T', s, 0, 0, names).contains(s.length());
    }

    private static boolean canGoOn(String s, String names) {
        String closing = "";
        for (int k = 0; k <= 5; k++) {
            if (isText(s + closing, names) || isText(s + "1" + closing, names)) return true;
            closing += ")";
        }
        return false;
    }

    private static int fault(String s, String names) {
        for (int p = 0; p < s.length(); p++) {
            if (!canGoOn(s.substring(0, p + 1), names)) return p;
        }
        return isText(s, names) ? -1 : s.length();
    }

    /** Splits at the last sign of the loosest sort that stands in no bracket. */
    private static int valueOf(String s, String names, int[] v) {
        for (String signs : new String[] {"|", "&", "<=>", "+-", "*/%"}) {
            int deep = 0;
            for (int i = s.length() - 1; i >= 0; i--) {
                char c = s.charAt(i);
                if (c == ')') deep++;
                if (c == '(') deep--;
                if (deep == 0 && signs.indexOf(c) >= 0) {
                    return join(c, valueOf(s.substring(0, i), names, v), valueOf(s.substring(i + 1), names, v));
                }
            }
        }
        char c = s.charAt(0);
        if (c == '!') return valueOf(s.substring(1), names, v) == 0 ? 1 : 0;
        if (c == '(') return valueOf(s.substring(1, s.length() - 1), names, v);
        return Character.isDigit(c) ? Integer.parseInt(s) : v[names.indexOf(c)];
    }

    private static int join(char c, int a, int b) {
        switch (c) {
            case '|': return a != 0 || b != 0 ? 1 : 0;
            case '&': return a != 0 && b != 0 ? 1 : 0;
            case '<': return a < b ? 1 : 0;
            case '=': return a == b ? 1 : 0;
            case '>': return a > b ? 1 : 0;
            case '+': return a + b;
            case '-': return a - b;
            case '*': return a * b;
            case '/': return b == 0 ? 0 : a / b;
            default: return b == 0 ? 0 : a % b;
        }
    }

    private static final String[] NAMES = {"bnfl", "htc"};

    // ---- the state

    private static final class World {
        int men = 0;
        int[] kind = new int[6];
        int[] m = new int[6];
        int[] hat = new int[6];
        int[] sees = new int[6];
        int[] paid = new int[6];
        boolean open = false;
        Set<Integer> possible = new TreeSet<>();
        int spoke = 0;
        int bell = 0;
        int fine = 3;
        String tape = "";
        String[] texts = {null, null};
        List<Integer> waiting = new ArrayList<>();
        int z = 1;
        Set<Integer> rowOf = null;
        int[] row = null;

        World copy() {
            World c = new World();
            c.men = men;
            c.kind = kind.clone();
            c.m = m.clone();
            c.hat = hat.clone();
            c.sees = sees.clone();
            c.paid = paid.clone();
            c.open = open;
            c.possible = possible;
            c.spoke = spoke;
            c.bell = bell;
            c.fine = fine;
            c.tape = tape;
            c.texts = texts.clone();
            c.waiting = new ArrayList<>(waiting);
            c.z = z;
            return c;
        }

        int theWorld() {
            int w = 0;
            for (int i = 0; i < men; i++) w |= hat[i] << i;
            return w;
        }

        int law(int use, int a, int b, int c, int d) {
            int[] v = {a, b, c, d};
            if (use == 0) return texts[0] == null ? 1 : valueOf(texts[0], NAMES[0], v);
            int pay = texts[1] == null ? a * 10 + 5 - b : valueOf(texts[1], NAMES[1], v);
            return Math.max(0, Math.min(999, pay));
        }

        Set<Integer> given() {
            Set<Integer> all = new TreeSet<>();
            for (int w = 0; w < 1 << men; w++) {
                int f = men == 0 ? 0 : w & 1;
                int l = men == 0 ? 0 : w >> (men - 1) & 1;
                if (law(0, Integer.bitCount(w), men, f, l) != 0) all.add(w);
            }
            return all;
        }

        /** The same as `possible`, for speed. */
        int[] row() {
            if (rowOf != possible) {
                rowOf = possible;
                row = possible.stream().mapToInt(Integer::intValue).toArray();
            }
            return row;
        }

        int colour(int man, int inWorld, int seen, int black) {
            int many = 0;
            for (int p : row()) {
                if ((p & seen) == (inWorld & seen) && (p >> man & 1) == black) many++;
            }
            return many;
        }

        boolean knows(int man, int inWorld, int seen) {
            return colour(man, inWorld, seen, 1) == 0 || colour(man, inWorld, seen, 0) == 0;
        }

        int says(int man, int inWorld) {
            return colour(man, inWorld, sees[man], 1) >= colour(man, inWorld, sees[man], 0) ? 1 : 0;
        }

        boolean speaks(int man, int inWorld) {
            if ((spoke >> man & 1) == 1) return false;
            int black = colour(man, inWorld, sees[man], 1);
            int white = colour(man, inWorld, sees[man], 0);
            boolean knows = black == 0 || white == 0;
            boolean hasty = knows || black > m[man] * white || white > m[man] * black;
            boolean slow = knows && !(bell < m[man]);
            boolean[] by = {knows, hasty, slow, false, hasty || bell >= m[man],
                slow && (sees[man] & spoke) == sees[man], kind[man] == 6 && knows(man, inWorld, 0)};
            return by[kind[man]];
        }

        List<Integer> heard(int inWorld) {
            List<Integer> all = new ArrayList<>();
            for (int i = 0; i < men; i++) all.add(speaks(i, inWorld) ? says(i, inWorld) : -1);
            return all;
        }

        void ring(boolean loose) {
            List<Integer> said = heard(theWorld());
            int together = 0;
            for (int i = 0; i < men; i++) {
                if (said.get(i) < 0) continue;
                together++;
                if (loose) {
                    z = z * 1103515245 + 12345;
                    if ((z >>> 8) % 8 == 0) said.set(i, 1 - said.get(i));
                }
            }
            Set<Integer> left = new TreeSet<>();
            for (int w : possible) if (heard(w).equals(said)) left.add(w);
            int newly = 0;
            for (int i = 0; i < men; i++) {
                if (said.get(i) < 0) continue;
                newly |= 1 << i;
                int more = said.get(i) == hat[i] ? law(1, hat[i], bell, together, 0) : -fine;
                paid[i] = Math.max(-99999, Math.min(99999, paid[i] + more));
            }
            if (!left.isEmpty()) possible = left;
            spoke |= newly;
            bell++;
        }

        World ahead(int n) {
            World c = copy();
            for (int i = 0; i < n; i++) c.ring(false);
            return c;
        }

        World asIn(int w) {
            World c = copy();
            for (int i = 0; i < men; i++) c.hat[i] = w >> i & 1;
            return c;
        }

        int when(int man) {
            World c = copy();
            for (int k = 0; k <= 30; k++) {
                if ((c.spoke >> man & 1) == 1) return k;
                c.ring(false);
            }
            return 31;
        }

        int signal(int set) {
            World c = copy();
            c.possible = new TreeSet<>(possible);
            c.possible.removeIf(w -> Integer.bitCount(w & set) % 2 != Integer.bitCount(theWorld() & set) % 2);
            int many = 0;
            for (int i = 0; i < men; i++) if (c.knows(i, theWorld(), sees[i])) many++;
            return many;
        }
    }

    private static final class Model {
        World now = new World();
        World kept = null;
        int images = 0;
        int[] errors = new int[6];
        int[][] sheets = new int[4][];
        int[] bits = new int[4];
        List<Integer> trace = new ArrayList<>();

        /** The answer due; an ERROR is counted by the caller where `plain` is false. */
        boolean plain;

        long any(long v) {
            plain = true;
            return v;
        }

        boolean man(int i) { return 0 <= i && i < now.men; }
        boolean within(int v, int low, int high) { return low <= v && v <= high; }

        long answer(String call, long[] a) {
            plain = false;
            long got = raw(call, a);
            if (!plain && got < LOW && got >= LOW - 5) errors[(int) (LOW - got)]++;
            return got;
        }

        long raw(String call, long[] l) {
            int[] a = new int[6];
            for (int i = 0; i < l.length; i++) a[i] = (int) l[i];
            switch (call) {
                case "man": case "ofMan": case "tellMan": case "become": case "as": case "fine": return men(call, a);
                case "feed": return feed(l[0], a[1]);
                case "text": case "law": return texts(call, a);
                case "open": case "close": case "bells": case "loose": return gate(call, a);
                case "seed": case "voice": case "trace": case "image": case "restore": case "tell": case "check": case "count": case "told":
                    return rest(call, a);
                case "sheet": case "put": case "move": case "worlds": return sheets(call, a);
                default: return thought(call, a);
            }
        }

        long men(String call, int[] a) {
            switch (call) {
                case "man":
                    if (!within(a[0], 0, 69)) return BEYOND;
                    if (now.open) return STATE;
                    if (now.men == 6) return FULL;
                    for (int i = 0; i < now.men; i++) now.sees[i] |= 1 << now.men;
                    now.sees[now.men] = (1 << now.men) - 1;
                    now.kind[now.men] = a[0] / 10;
                    now.m[now.men] = a[0] % 10;
                    return now.men++;
                case "ofMan": {
                    if (!man(a[0]) || !within(a[1], 0, 4)) return BEYOND;
                    int[][] all = {now.kind, now.m, now.hat, now.sees, now.paid};
                    return all[a[1]][a[0]];
                }
                case "tellMan": {
                    if (!man(a[0]) || !within(a[1], 2, 3)) return BEYOND;
                    if (a[1] == 2 && !within(a[2], 0, 1)) return BEYOND;
                    if (a[1] == 3 && (!within(a[2], 0, (1 << now.men) - 1) || (a[2] >> a[0] & 1) == 1)) return BEYOND;
                    if (now.open) return STATE;
                    int[] row = a[1] == 2 ? now.hat : now.sees;
                    int was = row[a[0]];
                    row[a[0]] = a[2];
                    return was;
                }
                case "become": {
                    if (!man(a[0]) || !within(a[1], 0, 69)) return BEYOND;
                    int was = now.kind[a[0]];
                    now.kind[a[0]] = a[1] / 10;
                    now.m[a[0]] = a[1] % 10;
                    return was;
                }
                case "as":
                    if (!man(a[0]) || !within(a[1], 0, 6)) return BEYOND;
                    return manOf(a[1]).getClass().isInstance(manOf(now.kind[a[0]])) ? now.m[a[0]] : KIND;
                default: {
                    if (!within(a[0], 0, 99)) return BEYOND;
                    int was = now.fine;
                    now.fine = a[0];
                    return was;
                }
            }
        }

        long feed(long word, int n) {
            if (!within(n, 1, 8)) return BEYOND;
            if (now.tape.length() + n > 50) return FULL;
            for (int i = 0; i < n; i++) now.tape += (char) (word >> 8 * i & 255);
            return now.tape.length();
        }

        long texts(String call, int[] a) {
            if (!within(a[0], 0, 1)) return BEYOND;
            if (call.equals("law")) return any(now.law(a[0], a[1], a[2], a[3], a[4]));
            int fault = fault(now.tape, NAMES[a[0]]);
            if (fault < 0) now.texts[a[0]] = now.tape;
            now.tape = "";
            return fault < 0 ? 1 : -10 - fault;
        }

        long gate(String call, int[] a) {
            switch (call) {
                case "open": {
                    if (now.open || !now.given().contains(now.theWorld())) return STATE;
                    now.possible = now.given();
                    now.open = true;
                    now.spoke = 0;
                    now.bell = 0;
                    return now.possible.size();
                }
                case "close":
                    if (!now.open) return STATE;
                    now.open = false;
                    return Integer.bitCount(now.spoke);
                default:
                    if (!within(a[0], 1, 30)) return BEYOND;
                    if (!now.open || now.bell + a[0] > 99) return STATE;
                    for (int i = 0; i < a[0]; i++) now.ring(call.equals("loose"));
                    return now.spoke;
            }
        }

        long thought(String call, int[] a) {
            boolean fits;
            switch (call) {
                case "possible": fits = within(a[0], 0, (1 << now.men) - 1); break;
                case "thinks": fits = man(a[0]) && within(a[1], 0, 4); break;
                case "then": case "trick": fits = within(a[0], 0, 30) && within(a[1], 0, 1); break;
                case "thenPaid": fits = within(a[0], 0, 30) && man(a[1]); break;
                case "silence": fits = man(a[0]) && within(a[1], 0, 30); break;
                case "longest": fits = true; break;
                case "signal": fits = man(a[0]) && (a[1] | now.sees[a[0]]) == now.sees[a[0]]; break;
                case "bestSignal": case "odds": fits = man(a[0]) && within(a[1], 0, 1); break;
                default: fits = man(a[0]); break;
            }
            if (!fits) return BEYOND;
            return now.open ? thinking(call, a) : STATE;
        }

        long thinking(String call, int[] a) {
            int w = now.theWorld();
            switch (call) {
                case "possible": return now.possible.contains(a[0]) ? 1 : 0;
                case "thinks": {
                    int seen = now.sees[a[0]];
                    int[] all = {now.colour(a[0], w, seen, 1), now.colour(a[0], w, seen, 0), now.knows(a[0], w, seen) ? 1 : 0,
                        now.says(a[0], w), now.speaks(a[0], w) ? 1 : 0};
                    return all[a[1]];
                }
                case "then": {
                    World c = now.ahead(a[0]);
                    return a[1] == 0 ? c.spoke : c.possible.size();
                }
                case "thenPaid": return now.ahead(a[0]).paid[a[1]];
                case "when": return now.when(a[0]) > 30 ? NONE : now.when(a[0]);
                case "silence": {
                    World c = now.copy();
                    c.kind[a[0]] = 3;
                    int others = 63 & ~(1 << a[0]);
                    return Integer.bitCount(now.ahead(a[1]).spoke & others) - Integer.bitCount(c.ahead(a[1]).spoke & others);
                }
                case "trick": {
                    int best = -1;
                    int fewest = 99;
                    for (int p : now.possible) {
                        int many = Integer.bitCount(now.asIn(p).ahead(a[0]).spoke);
                        if (many < fewest) {
                            fewest = many;
                            best = p;
                        }
                    }
                    return a[1] == 0 ? best : fewest;
                }
                case "longest": return longest();
                case "signal": return now.signal(a[1]);
                case "bestSignal": {
                    int best = -1;
                    int most = -1;
                    for (int set = 0; set < 64; set++) {
                        if ((set & now.sees[a[0]]) == set && now.signal(set) > most) {
                            most = now.signal(set);
                            best = set;
                        }
                    }
                    return a[1] == 0 ? best : most;
                }
                case "look": return look(a[0]);
                default: {
                    long black = now.colour(a[0], w, now.sees[a[0]], 1);
                    long all = black + now.colour(a[0], w, now.sees[a[0]], 0);
                    if (black == 0) return a[1];
                    for (long d = all; d >= 1; d--) {
                        if (black % d == 0 && all % d == 0) return a[1] == 0 ? black / d : all / d;
                    }
                    return -1;
                }
            }
        }

        long longest() {
            int most = 0;
            for (int p : now.possible) {
                World c = now.asIn(p);
                for (int k = 1; k <= 30; k++) {
                    int was = c.spoke;
                    c.ring(false);
                    if (c.spoke != was) most = Math.max(most, k);
                }
            }
            return most;
        }

        long look(int man) {
            int best = NONE;
            int soonest = 31;
            for (int o = 0; o < now.men; o++) {
                if (o == man || (now.sees[man] >> o & 1) == 1) continue;
                World c = now.copy();
                c.sees[man] |= 1 << o;
                if (c.when(man) < soonest) {
                    soonest = c.when(man);
                    best = o;
                }
            }
            return best;
        }

        long rest(String call, int[] a) {
            switch (call) {
                case "seed": {
                    int was = now.z;
                    now.z = a[0];
                    return any(was);
                }
                case "voice": {
                    if (!man(a[0]) || !within(a[1], 0, 3)) return BEYOND;
                    Man m = manOf(now.kind[a[0]]);
                    m.n = a[0];
                    m.m = now.m[a[0]];
                    int v = a[1] == 0 ? m.looks(a[2]) : a[1] == 1 ? m.thinks(a[2]) : a[1] == 2 ? m.says(a[2]) : m.tells(a[2]);
                    trace = m.trace.subList(0, Math.min(40, m.trace.size()));
                    return any(v);
                }
                case "trace": return within(a[0], 0, trace.size() - 1) ? trace.get(a[0]) : NONE;
                case "image":
                    kept = now.copy();
                    return ++images;
                case "restore":
                    if (kept == null) return NONE;
                    now = kept.copy();
                    return now.bell;
                case "tell":
                    if (now.waiting.size() == 20) return FULL;
                    now.waiting.add(a[0]);
                    return now.waiting.size();
                case "check": {
                    List<Integer> all = now.waiting;
                    now.waiting = new ArrayList<>();
                    if (!now.open) return STATE;
                    for (int i = 0; i < all.size(); i++) if (now.ahead(i + 1).spoke != all.get(i)) return 1 + i;
                    return 0;
                }
                case "count": {
                    if (!within(a[0], 0, 9)) return BEYOND;
                    int[] all = {now.men, now.open ? 1 : 0, now.bell, now.spoke, now.open ? now.possible.size() : 0, now.fine,
                        now.tape.length(), now.waiting.size(), trace.size(), now.z};
                    return any(all[a[0]]);
                }
                default:
                    return within(a[0], 1, 5) ? errors[a[0]] : BEYOND;
            }
        }

        long sheets(String call, int[] a) {
            if (!within(a[0], 0, 3)) return BEYOND;
            switch (call) {
                case "sheet":
                    if (!List.of(0, 8, 16, 32).contains(a[1])) return BEYOND;
                    if (a[1] == 0) {
                        sheets[a[0]] = null;
                        return 1;
                    }
                    if (a[2] < 0) return STATE;
                    if (a[2] > 40) return BEYOND;
                    sheets[a[0]] = new int[a[2]];
                    bits[a[0]] = a[1];
                    return 1;
                case "put":
                    if (sheets[a[0]] == null) return NONE;
                    if (!within(a[1], 0, sheets[a[0]].length - 1)) return BEYOND;
                    sheets[a[0]][a[1]] = a[2] << (32 - bits[a[0]]) >> (32 - bits[a[0]]);
                    return 1;
                case "move": {
                    if (!within(a[2], 0, 3)) return BEYOND;
                    int[] from = sheets[a[0]];
                    int[] to = sheets[a[2]];
                    if (from == null || to == null) return NONE;
                    if (bits[a[0]] != bits[a[2]]) return KIND;
                    if (a[1] < 0 || a[3] < 0 || a[4] < 0 || (long) a[1] + a[4] > from.length || (long) a[3] + a[4] > to.length) return BEYOND;
                    int[] was = from.clone();
                    for (int i = 0; i < a[4]; i++) to[a[3] + i] = was[a[1] + i];
                    return a[4];
                }
                default: {
                    if (sheets[a[0]] == null) return NONE;
                    Set<Integer> left = new TreeSet<>();
                    for (int v : sheets[a[0]]) if (now.possible.contains(v)) left.add(v);
                    if (!now.open || !left.contains(now.theWorld())) return STATE;
                    now.possible = left;
                    return left.size();
                }
            }
        }
    }

    // ---- the calls

    private static long call(OtherHat x, String name, long[] l) {
        int[] a = new int[6];
        for (int i = 0; i < l.length; i++) a[i] = (int) l[i];
        switch (name) {
            case "man": return x.man(a[0]);
            case "ofMan": return x.ofMan(a[0], a[1]);
            case "tellMan": return x.tellMan(a[0], a[1], a[2]);
            case "become": return x.become(a[0], a[1]);
            case "as": return x.as(a[0], a[1]);
            case "fine": return x.fine(a[0]);
            case "feed": return x.feed(l[0], a[1]);
            case "text": return x.text(a[0]);
            case "law": return x.law(a[0], a[1], a[2], a[3], a[4]);
            case "open": return x.open();
            case "close": return x.close();
            case "bells": return x.bells(a[0]);
            case "loose": return x.loose(a[0]);
            case "possible": return x.possible(a[0]);
            case "thinks": return x.thinks(a[0], a[1]);
            case "then": return x.then(a[0], a[1]);
            case "thenPaid": return x.thenPaid(a[0], a[1]);
            case "when": return x.when(a[0]);
            case "silence": return x.silence(a[0], a[1]);
            case "trick": return x.trick(a[0], a[1]);
            case "longest": return x.longest();
            case "signal": return x.signal(a[0], a[1]);
            case "bestSignal": return x.bestSignal(a[0], a[1]);
            case "look": return x.look(a[0]);
            case "odds": return x.odds(a[0], a[1]);
            case "seed": return x.seed(a[0]);
            case "voice": return x.voice(a[0], a[1], a[2]);
            case "trace": return x.trace(a[0]);
            case "sheet": return x.sheet(a[0], a[1], a[2]);
            case "put": return x.put(a[0], a[1], a[2]);
            case "move": return x.move(a[0], a[1], a[2], a[3], a[4]);
            case "worlds": return x.worlds(a[0]);
            case "image": return x.image();
            case "restore": return x.restore();
            case "tell": return x.tell(a[0]);
            case "check": return x.check();
            case "count": return x.count(a[0]);
            case "told": return x.told(a[0]);
            default: throw new IllegalStateException(name);
        }
    }

    private static final String[] DEAR = {"then", "thenPaid", "when", "silence", "trick", "longest", "look", "bestSignal", "check"};
    private static final String[] CHEAP = {"ofMan", "as", "law", "possible", "thinks", "signal", "odds", "seed", "voice",
        "trace", "put", "move", "tell", "count", "told", "sheet", "feed", "fine", "become"};

    private static final class Run {
        final OtherHat x = new OtherHat();
        final Model model = new Model();
        final Random random;
        final int number;
        final int mostMen;
        /** One argument in so many is at an edge, or far away. */
        final int edges;

        Run(int number) {
            this.number = number;
            random = new Random(number);
            edges = number % 4 == 0 ? 3 : 25;
            mostMen = number % 9 == 0 ? 6 : 1 + number % 5;
        }

        void due(String name, long... a) {
            long got = call(x, name, a);
            long want = model.answer(name, a);
            if (got != want) {
                wrong++;
                if (wrong < 40) System.out.println("run " + number + ": " + name + Arrays.toString(a) + " answered " + got + ", due is " + want);
            }
        }

        int below(int n) { return random.nextInt(n); }
        boolean oneIn(int n) { return below(n) == 0; }

        /** A number of a range, now and then one at its edges or far away. */
        int some(int low, int high) {
            if (oneIn(edges)) return new int[] {low - 1, high + 1, low, high, Integer.MIN_VALUE, Integer.MAX_VALUE, -1}[below(7)];
            return high < low ? low : low + below(high - low + 1);
        }

        int man() { return some(0, Math.max(0, model.now.men - 1)); }
        int set() { return some(0, (1 << model.now.men) - 1); }
        int km() { return some(0, 6) * 10 + below(10); }

        String grown(String names, int deep) {
            int pick = below(deep > 3 ? 4 : 12);
            if (pick < 2) return String.valueOf(below(oneIn(8) ? 10000 : 4));
            if (pick < 4) return String.valueOf(names.charAt(below(names.length())));
            if (pick == 4) return "!" + (oneIn(2) ? "(" + grown(names, deep + 2) + ")" : grown(names, 9));
            if (pick == 5) return "(" + grown(names, deep + 2) + ")";
            return grown(names, deep + 1) + "|&<=>+-*/%".charAt(below(10)) + grown(names, deep + 1);
        }

        void feedText(String text) {
            for (int i = 0; i < text.length(); i += 8) {
                int n = Math.min(8, text.length() - i);
                long word = oneIn(2) || n == 8 ? 0 : random.nextLong() << 8 * n;
                for (int k = 0; k < n; k++) word |= (long) text.charAt(i + k) << 8 * k;
                due("feed", word, n);
            }
        }

        void tellText() {
            int use = below(2);
            String text = grown(NAMES[use], 0);
            if (use == 0 && oneIn(2)) text = new String[] {"b>0", "b", "n-b", "b%2=0", "f|l", "b=2|b=1", "(b>0)*(b<n)", "1"}[below(8)];
            if (oneIn(3)) {
                char[] signs = "|&<=>+-*/%!()0123456789bnflhtc x".toCharArray();
                int at = below(text.length() + 1);
                text = text.substring(0, at) + signs[below(signs.length)] + text.substring(Math.min(text.length(), at + below(2)));
            }
            feedText(text);
            due("text", some(use, use));
        }

        void setUp() {
            due("close");
            for (int i = 0; i < mostMen; i++) if (model.now.men < mostMen) due("man", km());
            for (int i = 0; i < model.now.men; i++) {
                due("tellMan", i, 2, below(2));
                due("tellMan", i, 3, oneIn(2) ? set() : (1 << model.now.men) - 1 & ~(1 << i));
                if (oneIn(2)) due("become", i, oneIn(2) ? below(10) : km());
            }
            tellText();
            due("open");
            if (model.now.open && oneIn(3)) askAll();
        }

        /** Much that is thought hangs on bells that have not rung yet. */
        void askAll() {
            due("longest");
            due("trick", 30, 0);
            due("trick", below(31), 1);
            for (int i = 0; i < model.now.men; i++) {
                due("when", i);
                due("silence", i, 2 + below(12));
                due("look", i);
                due("thenPaid", below(31), i);
            }
        }

        void tellWell() {
            int n = below(6);
            for (int i = 1; i <= n && model.now.open; i++) due("tell", model.now.ahead(i).spoke);
        }

        void worlds() {
            int sheet = below(4);
            due("sheet", sheet, new int[] {8, 16, 32}[below(3)], 40);
            for (int i = 0; i < 8; i++) due("put", sheet, below(40), set());
            due("put", sheet, below(40), model.now.theWorld() + (oneIn(2) ? 0 : 65536));
            due("worlds", sheet);
        }

        void step() {
            int pick = below(100);
            if (pick < 4 || !model.now.open && pick < 40) setUp();
            else if (pick < 18) due(oneIn(3) ? "loose" : "bells", oneIn(5) ? some(1, 30) : 1);
            else if (pick < 20) worlds();
            else if (pick < 23) tellText();
            else if (pick < 25) due(oneIn(2) ? "image" : "restore");
            else if (pick < 27) tellWell();
            else if (pick < 28) due("tellMan", man(), some(2, 3), set());
            else if (pick < 29) due("man", km());
            else if (pick < 35) dear(DEAR[below(DEAR.length)]);
            else cheap(CHEAP[below(CHEAP.length)]);
        }

        void dear(String name) {
            switch (name) {
                case "then": case "trick": due(name, some(0, 30), some(0, 1)); break;
                case "thenPaid": due(name, some(0, 30), man()); break;
                case "silence": due(name, man(), some(0, 30)); break;
                case "longest": case "check": due(name); break;
                case "bestSignal": due(name, man(), some(0, 1)); break;
                default: due(name, man()); break;
            }
        }

        void cheap(String name) {
            switch (name) {
                case "ofMan": case "thinks": due(name, man(), some(0, 4)); break;
                case "as": due(name, man(), some(0, 6)); break;
                case "law": due(name, some(0, 1), oneIn(3) ? random.nextInt() : below(4), below(9) - 4, below(9) - 4, below(3)); break;
                case "possible": due(name, set()); break;
                case "signal": due(name, man(), set()); break;
                case "odds": due(name, man(), some(0, 1)); break;
                case "seed": due(name, random.nextInt()); break;
                case "voice": due(name, man(), some(0, 3), oneIn(3) ? random.nextInt() : below(20)); break;
                case "trace": due(name, some(0, 9)); break;
                case "put": due(name, some(0, 3), some(0, 9), oneIn(2) ? random.nextInt() : set()); break;
                case "move": due(name, some(0, 3), some(0, 9), some(0, 3), some(0, 9), some(0, 9)); break;
                case "tell": due(name, set()); break;
                case "count": due(name, some(0, 9)); break;
                case "told": due(name, some(1, 5)); break;
                case "sheet": due(name, some(0, 3), new int[] {0, 8, 16, 32, 7, -8}[below(6)], some(0, 40)); break;
                case "feed": due(name, random.nextLong(), some(1, 8)); break;
                case "fine": due(name, some(0, 99)); break;
                default: due("become", man(), km()); break;
            }
        }
    }

    /** What takes some thirty BELLS, found by trying many: KINDS with m, SEES, THE WORLD, POSSIBLE as bits. */
    private static void longRun(int number, int[] kms, int[] sees, int world, long possible) {
        Run run = new Run(number);
        for (int km : kms) run.due("man", km);
        for (int i = 0; i < 6; i++) {
            run.due("tellMan", i, 2, world >> i & 1);
            run.due("tellMan", i, 3, sees[i]);
        }
        run.due("open");
        run.due("sheet", 0, 8, Long.bitCount(possible));
        int many = 0;
        for (int w = 0; w < 64; w++) if ((possible >>> w & 1L) == 1L) run.due("put", 0, many++, w);
        run.due("worlds", 0);
        for (int bell = 0; bell < 4; bell++) {
            run.askAll();
            run.due("bells", 1);
        }
        for (int n = 0; n <= 30; n++) {
            run.due("then", n, 0);
            run.due("then", n, 1);
        }
        run.due("bells", 30);
        run.askAll();
    }

    private static void longRuns() {
        longRun(-1, new int[] {53, 29, 4, 52, 29, 29}, new int[] {36, 57, 10, 7, 46, 21}, 36, 0xb55ba6556b6975fbL);
        longRun(-2, new int[] {53, 29, 4, 52, 29, 29}, new int[] {4, 57, 10, 6, 46, 21}, 36, 0xb55ba6556b6975fbL);
        longRun(-3, new int[] {24, 8, 57, 4, 29, 59}, new int[] {38, 41, 32, 50, 15, 8}, 38, 0xee4d0b7551b8f4dbL);
        longRun(-4, new int[] {59, 16, 29, 15, 59, 19}, new int[] {8, 33, 43, 21, 35, 26}, 11, 0xdf7df63679a896dL);
        longRun(-5, new int[] {52, 29, 56, 59, 19, 15}, new int[] {36, 60, 48, 1, 37, 11}, 5, 0xd45e3d6a2a7685e9L);
    }

    /** More runs than the usual ones, if their number is told. */
    public static void main(String[] args) {
        int runs = args.length == 0 ? RUNS : Integer.parseInt(args[0]);
        for (int number = 1; number <= runs; number++) {
            Run run = new Run(number);
            for (int i = 0; i < CALLS; i++) run.step();
        }
        longRuns();
        System.out.println(wrong == 0 ? "all answers are as due" : wrong + " answers are not as due");
        if (wrong != 0) System.exit(1);
    }
}
