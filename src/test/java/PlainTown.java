import java.util.ArrayList;
import java.util.Arrays;
import java.util.List;
import java.util.regex.Matcher;
import java.util.regex.Pattern;

/**
 * The document once more, written as plainly as it goes and in another way than RollTown (kinds as classes,
 * copies instead of rows, all orders and packings tried), so that both can be asked the same and compared.
 */
final class PlainTown {
    static final int BEYOND = Due.BEYOND, FULL = Due.FULL, KIND = Due.KIND, NONE = Due.NONE;
    static final int STATE = Due.STATE, MISSING = Due.MISSING, SIZE = Due.SIZE;

    static class Kind {
        int gain(One t, int fall) { return fall * t.rolls; }
        int drag(One t, int ground) { return new int[] {2, 12, 30, 4, 2}[ground]; }
        int top(One t) { return 40; }
    }
    static class Cheese extends Kind {
        int gain(One t, int fall) { return super.gain(t, fall) + 2; }
        int top(One t) { return super.top(t) - 10; }
    }
    static class Drum extends Kind {
        int drag(One t, int ground) { return super.drag(t, ground) + t.lean; }
        int top(One t) { return super.top(t) - 3 * t.lean; }
    }
    static class Rock extends Cheese {
        int gain(One t, int fall) { return super.gain(t, fall) + t.weight / 10; }
        int top(One t) { return super.top(t) + 25; }
    }
    static class Bale extends Drum {
        int drag(One t, int ground) { return super.drag(t, ground) - (ground == 2 ? 10 : 0); }
    }
    static class Ring extends Cheese {
        int drag(One t, int ground) { return super.drag(t, ground) / 2; }
    }
    static class Box extends Kind {
        int gain(One t, int fall) { return super.gain(t, fall) > 0 ? 0 : super.gain(t, fall); }
    }
    static final Kind[] KINDS = {
        new Kind(), new Cheese(), new Drum(), new Rock(), new Bale(), new Ring(), new Box()};
    static final List<String> KIND_WORDS = List.of("thing", "cheese", "drum", "rock", "bale", "ring", "box");
    static final List<String> GROUND_WORDS = List.of("stone", "sand", "straw", "bend", "gate");

    static class One {
        int kind, weight = 10, rolls = 4, lean, cell, speed, state, damage;
        boolean rolledAtFirst;
        One(int kind, int weight) { this.kind = kind; this.weight = weight; }
        One copy() {
            One t = new One(kind, weight);
            t.rolls = rolls; t.lean = lean; t.cell = cell; t.speed = speed; t.state = state; t.damage = damage;
            return t;
        }
        int gain(int fall) { return KINDS[kind].gain(this, fall); }
        int drag(int ground) { return KINDS[kind].drag(this, ground); }
        int top() { return KINDS[kind].top(this); }
        boolean restsAbove() { return state == 0 && cell < 30; }
    }

    static class World {
        int[] fall = new int[31], ground = new int[31], spot = new int[10];
        int first = 0, last = 14, minute = 0, z = 1;
        List<One> all = new ArrayList<>();
        World() { Arrays.fill(fall, 2); Arrays.fill(spot, -1); }
        World copy() {
            World w = new World();
            w.fall = fall.clone(); w.ground = ground.clone(); w.spot = spot.clone();
            w.first = first; w.last = last; w.minute = minute; w.z = z;
            for (One t : all) w.all.add(t.copy());
            return w;
        }
        boolean shut(int m) {
            for (int at = first, n = 0; n < 60; at = (at + 1) % 60, n++) {
                if (at == m % 60) return true;
                if (at == last) return false;
            }
            return false;
        }
        /** {how many met, how many came out} */
        int[] step() {
            int out = 0;
            for (One t : all) t.rolledAtFirst = t.state == 1;
            for (One t : all) if (t.state == 1) { move(t); if (t.state == 2) out++; }
            int met = 0;
            for (int c = 1; c < 30; c++) {
                List<One> here = new ArrayList<>();
                boolean any = false;
                for (One t : all) if (t.cell == c && t.state < 2) { here.add(t); any |= t.rolledAtFirst; }
                if (here.size() < 2 || !any) continue;
                for (One t : here) { t.speed = 0; t.state = 0; t.damage++; met++; }
            }
            minute++;
            return new int[] {met, out};
        }
        void move(One t) {
            int v = t.speed + t.gain(fall[t.cell]) - t.drag(ground[t.cell]);
            t.speed = v < 0 ? 0 : v > 99 ? 99 : v;
            for (int left = t.speed / 10; left > 0 && t.state == 1; left--) {
                if (ground[t.cell + 1] == 4 && shut(minute)) { t.speed = 0; break; }
                t.cell++;
                if (t.cell == 30) { t.speed = 0; t.state = 0; }
                else if (ground[t.cell] == 3 && t.speed > t.top()) t.state = 2;
            }
            if (t.speed == 0 && t.state != 2) t.state = 0;
        }
        void letGo(int i, int speed) { all.get(i).state = 1; all.get(i).speed = speed; }
        int set(int state) { int s = 0; for (int i = 0; i < all.size(); i++) if (all.get(i).state == state) s += 1 << i; return s; }
        int feet() { int s = 0; for (int i = 0; i < all.size(); i++) if (all.get(i).state == 0 && all.get(i).cell == 30) s += 1 << i; return s; }
        int damage() { int s = 0; for (One t : all) s += t.damage; return s; }
        World alone(int i) {
            World w = copy();
            for (int k = 0; k < w.all.size(); k++) if (k != i) { w.all.get(k).state = 3; }
            return w;
        }
    }

    World now = new World();
    World kept = null;
    String tape = "";
    int[][] sheets = new int[4][];
    int[] bits = new int[4];
    int[] found = new int[7];

    private int no(int finding) { found[-1000001 - finding]++; return finding; }
    private boolean isThing(int t) { return t >= 0 && t < now.all.size(); }
    private static boolean in(int v, int a, int b) { return v >= a && v <= b; }

    int fall(int c, int v) { if (!in(c, 0, 30) || !in(v, -9, 9)) return no(BEYOND); int was = now.fall[c]; now.fall[c] = v; return was; }
    int ground(int c, int v) { if (!in(c, 0, 30) || !in(v, 0, 4)) return no(BEYOND); int was = now.ground[c]; now.ground[c] = v; return was; }
    int gate(int what, int v) {
        if (!in(what, 0, 1) || !in(v, 0, 59)) return no(BEYOND);
        int was;
        if (what == 0) { was = now.first; now.first = v; } else { was = now.last; now.last = v; }
        return was;
    }
    int shut(int m) { return in(m, 0, 9999) ? now.shut(m) ? 1 : 0 : no(BEYOND); }
    int thing(int kind, int weight) {
        if (!in(kind, 0, 6) || !in(weight, 1, 99)) return no(BEYOND);
        if (now.all.size() == 10) return no(FULL);
        now.all.add(new One(kind, weight));
        return now.all.size() - 1;
    }
    int of(int i, int what) {
        if (!isThing(i) || !in(what, 0, 8)) return no(BEYOND);
        One t = now.all.get(i);
        return new int[] {t.kind, t.weight, t.rolls, t.lean, t.cell, t.speed, t.state, t.damage, t.top()}[what];
    }
    int change(int i, int what, int v) {
        if (!isThing(i) || !in(what, 0, 3)) return no(BEYOND);
        int[][] range = {{0, 6}, {1, 99}, {1, 9}, {0, 9}};
        if (!in(v, range[what][0], range[what][1])) return no(BEYOND);
        One t = now.all.get(i);
        int was = of(i, what);
        if (what == 0) t.kind = v;
        if (what == 1) t.weight = v;
        if (what == 2) t.rolls = v;
        if (what == 3) t.lean = v;
        return was;
    }
    int told(int i, int what, int c) {
        if (!isThing(i) || !in(what, 0, 1) || !in(c, 0, 30)) return no(BEYOND);
        One t = now.all.get(i);
        return what == 0 ? t.gain(now.fall[c]) : t.drag(now.ground[c]);
    }
    int go(int i) {
        if (!isThing(i)) return no(BEYOND);
        if (!now.all.get(i).restsAbove()) return no(STATE);
        now.letGo(i, 10);
        return now.all.get(i).cell;
    }
    int put(int i, int c) {
        if (!isThing(i) || !in(c, 0, 30)) return no(BEYOND);
        One t = now.all.get(i);
        int was = t.cell;
        t.cell = c; t.state = 0; t.speed = 0;
        return was;
    }
    int minutes(int n) {
        if (!in(n, 1, 120)) return no(BEYOND);
        if (now.minute + n > 9999) return no(STATE);
        int sum = 0;
        for (int i = 0; i < n; i++) { int[] r = now.step(); sum += r[0] + r[1]; }
        return sum;
    }
    int are(int state) { return in(state, 0, 3) ? now.set(state) : no(BEYOND); }
    int on(int c) {
        if (!in(c, 0, 30)) return no(BEYOND);
        int s = 0;
        for (int i = 0; i < now.all.size(); i++) if (now.all.get(i).cell == c && now.all.get(i).state < 2) s += 1 << i;
        return s;
    }
    int ahead(int n, int what) {
        if (!in(n, 0, 200) || what < 0 || what >= 4 + now.all.size()) return no(BEYOND);
        if (now.minute + n > 9999) return no(STATE);
        World w = now.copy();
        for (int i = 0; i < n; i++) w.step();
        if (what == 0) return w.set(1);
        if (what == 1) return w.set(2);
        if (what == 2) return w.feet();
        if (what == 3) return w.damage();
        return w.all.get(what - 4).cell;
    }
    int meet() {
        if (now.minute > 9799) return no(STATE);
        World w = now.copy();
        for (int i = 1; i <= 200; i++) if (w.step()[0] > 0) return i;
        return no(NONE);
    }

    /** The alone-world at its end, with what was seen. */
    static class Tale { One t; int took, fast, seen; int far() { return t.state == 2 ? -1 : t.cell; } boolean foot() { return t.state == 0 && t.cell == 30; } }
    private static Tale tell(World from, int i, int speed) {
        World w = from.alone(i);
        Tale r = new Tale();
        r.t = w.all.get(i);
        if (r.t.state == 0) w.letGo(i, speed);
        r.fast = r.t.speed;
        r.seen = 1 << r.t.cell;
        while (r.took < 200 && r.t.state == 1) {
            w.step();
            r.took++;
            r.fast = Math.max(r.fast, r.t.speed);
            if (r.t.state != 2) r.seen |= 1 << r.t.cell;
        }
        return r;
    }
    private int rollFinding(int i) {
        if (!isThing(i)) return BEYOND;
        One t = now.all.get(i);
        return t.state > 1 || t.cell == 30 || now.minute > 9799 ? STATE : 0;
    }
    int ends(int i) { if (rollFinding(i) != 0) return no(rollFinding(i)); Tale r = tell(now, i, 10); return r.t.state == 1 ? no(NONE) : r.far(); }
    int takes(int i) { if (rollFinding(i) != 0) return no(rollFinding(i)); Tale r = tell(now, i, 10); return r.t.state == 1 ? no(NONE) : r.took; }
    int speed(int i) { if (rollFinding(i) != 0) return no(rollFinding(i)); return tell(now, i, 10).fast; }
    int seen(int i) { if (rollFinding(i) != 0) return no(rollFinding(i)); return tell(now, i, 10).seen; }
    int sand(int i, int c) {
        if (!isThing(i) || !in(c, 0, 30)) return no(BEYOND);
        if (rollFinding(i) != 0) return no(rollFinding(i));
        for (int k = 0; k < 31; k++) {
            World w = now.copy();
            w.ground[k] = 1;
            Tale r = tell(w, i, 10);
            if (r.t.state == 0 && r.t.cell == c) return k;
        }
        return no(NONE);
    }
    int rollsFor(int i) {
        if (rollFinding(i) != 0) return no(rollFinding(i));
        for (int k = 1; k < 10; k++) { World w = now.copy(); w.all.get(i).rolls = k; if (tell(w, i, 10).foot()) return k; }
        return no(NONE);
    }
    int matters(int i) {
        if (rollFinding(i) != 0) return no(rollFinding(i));
        int s = 0;
        for (int k = 0; k < 31; k++) { World w = now.copy(); w.ground[k] = 0; if (tell(w, i, 10).far() != tell(now, i, 10).far()) s += 1 << k; }
        return s;
    }
    int kindFor(int i) {
        if (rollFinding(i) != 0) return no(rollFinding(i));
        int[] far = new int[7];
        for (int k = 0; k < 7; k++) { World w = now.copy(); w.all.get(i).kind = k; far[k] = tell(w, i, 10).far(); }
        int best = Arrays.stream(far).max().getAsInt();
        for (int k = 0; k < 7; k++) if (far[k] == best) return k;
        return -5;
    }
    int wait(int i) {
        if (!isThing(i)) return no(BEYOND);
        if (!now.all.get(i).restsAbove() || now.minute > 9740) return no(STATE);
        for (int n = 0; n < 60; n++) {
            World w = now.copy();
            for (int k = 0; k < n; k++) w.step();
            w.letGo(i, 10);
            int met = 0;
            for (int k = 0; k < 200; k++) met += w.step()[0];
            if (met == 0) return n;
        }
        return no(NONE);
    }
    int behind(int a, int b) {
        if (!isThing(a) || !isThing(b) || a == b) return no(BEYOND);
        One s = now.all.get(a), t = now.all.get(b);
        if (!s.restsAbove() || !t.restsAbove() || s.cell != t.cell || now.minute > 9740) return no(STATE);
        for (int n = 1; n < 60; n++) {
            World w = now.copy();
            for (int k = 0; k < w.all.size(); k++) if (k != a && k != b) w.all.get(k).state = 3;
            int met = 0;
            w.letGo(a, 10);
            for (int k = 0; k < n; k++) met += w.step()[0];
            w.letGo(b, 10);
            for (int k = 0; k < 200; k++) met += w.step()[0];
            if (met == 0 && w.feet() == ((1 << a) | (1 << b))) return n;
        }
        return no(NONE);
    }
    int come() {
        if (now.minute > 9799) return no(STATE);
        int s = 0;
        for (int i = 0; i < now.all.size(); i++) if (now.all.get(i).state == 0 && now.all.get(i).cell == 0 && tell(now, i, 10).foot()) s++;
        return s;
    }

    private boolean badSet(int s) { return s <= 0 || s >= 1 << now.all.size(); }
    private int weigh(int set) { int s = 0; for (int i = 0; i < now.all.size(); i++) if ((set >> i & 1) == 1) s += now.all.get(i).weight; return s; }
    private int left(int set) {
        int best = 0;
        for (int m = 1; m < 1024; m++) {
            if ((m & ~set) != 0 || (m & Integer.lowestOneBit(set)) == 0) continue;
            if (best == 0 || apart(set, m) < apart(set, best)) best = m;
        }
        return best;
    }
    private int apart(int set, int m) { return Math.abs(weigh(m) - weigh(set & ~m)); }
    int pack(int set) { return badSet(set) ? no(BEYOND) : left(set); }
    int lean(int set) { return badSet(set) ? no(BEYOND) : apart(set, left(set)); }
    int drums(int set, int most) {
        if (badSet(set) || !in(most, 1, 999)) return no(BEYOND);
        List<Integer> w = new ArrayList<>();
        for (int i = 0; i < now.all.size(); i++) if ((set >> i & 1) == 1) w.add(now.all.get(i).weight);
        for (int v : w) if (v > most) return no(NONE);
        return fill(w, 0, new int[10], 0, most);
    }
    private static int fill(List<Integer> w, int at, int[] load, int used, int most) {
        if (at == w.size()) return used;
        int best = 99;
        for (int d = 0; d <= used; d++) {
            if (load[d] + w.get(at) > most) continue;
            load[d] += w.get(at);
            best = Math.min(best, fill(w, at + 1, load, Math.max(used, d + 1), most));
            load[d] -= w.get(at);
        }
        return best;
    }

    private int time(int i) { return now.all.get(i).weight / 10 + 1; }
    private List<Integer> atFoot() { List<Integer> l = new ArrayList<>(); for (int i = 0; i < 10; i++) if ((now.feet() >> i & 1) == 1) l.add(i); return l; }
    int waits() { int at = 0, s = 0; for (int i : atFoot()) { at += time(i); s += at; } return s; }
    int least() {
        List<Integer> l = atFoot();
        int[] best = new int[1 << l.size()];
        int[] sum = new int[1 << l.size()];
        for (int m = 1; m < best.length; m++) {
            best[m] = Integer.MAX_VALUE;
            for (int k = 0; k < l.size(); k++) if ((m >> k & 1) == 1) sum[m] = sum[m ^ 1 << k] + time(l.get(k));
            for (int k = 0; k < l.size(); k++) if ((m >> k & 1) == 1) best[m] = Math.min(best[m], best[m ^ 1 << k] + sum[m]);
        }
        return best[best.length - 1];
    }
    private List<Integer> line() { List<Integer> l = atFoot(); l.sort((a, b) -> now.all.get(a).weight - now.all.get(b).weight); return l; }
    int order(int i) { if (!in(i, 0, 9)) return no(BEYOND); return i < line().size() ? line().get(i) : no(NONE); }
    int wheel(int n) {
        if (!in(n, 1, 999)) return no(BEYOND);
        int at = 0, s = 0;
        for (int i : line()) { at += time(i); if (at > n) break; now.all.get(i).state = 3; s++; }
        return s;
    }
    int odds(int i, int n) {
        if (!isThing(i) || !in(n, 1, 20)) return no(BEYOND);
        if (!now.all.get(i).restsAbove() || now.minute > 9799) return no(STATE);
        int s = 0;
        for (int k = 0; k < n; k++) {
            now.z = now.z * 1103515245 + 12345;
            if (tell(now, i, 10 + (now.z >>> 8) % 30).far() == -1) s++;
        }
        return s;
    }
    int worst() {
        int best = -1;
        for (int i = now.all.size() - 1; i >= 0; i--) if (now.all.get(i).damage > 0 && (best < 0 || now.all.get(i).damage >= now.all.get(best).damage)) best = i;
        return best < 0 ? no(NONE) : best;
    }
    int seed(int v) { int was = now.z; now.z = v; return was; }

    int feed(int bytes, int n) {
        if (!in(n, 1, 4)) return no(BEYOND);
        if (tape.length() + n > 120) return no(FULL);
        for (int i = n - 1; i >= 0; i--) tape += (char) (bytes >> 8 * i & 255);
        return tape.length();
    }
    int wipe() { int n = tape.length(); tape = ""; return n; }

    private List<String> words;
    private List<Integer> places;
    private int at;
    private static final Pattern TOKEN = Pattern.compile("[a-z]+|[0-9]+|[^ ]", Pattern.DOTALL);
    int text() {
        words = new ArrayList<>();
        places = new ArrayList<>();
        Matcher m = TOKEN.matcher(tape);
        while (m.find()) { words.add(m.group()); places.add(m.start()); }
        words.add("");
        places.add(tape.length());
        tape = "";
        at = 0;
        World w = now.copy();
        int items = 0;
        do {
            if (!item(w)) return -1 - places.get(at);
            items++;
        } while (take(";"));
        if (!words.get(at).isEmpty()) return -1 - places.get(at);
        now = w;
        return items;
    }
    private boolean take(String s) { if (!words.get(at).equals(s)) return false; at++; return true; }
    /** The number in hand if it is within, else -1. */
    private int num(int low, int high) {
        String s = words.get(at);
        if (s.isEmpty() || !Character.isDigit(s.charAt(0)) || s.charAt(0) > 127) return -1;
        java.math.BigInteger v = new java.math.BigInteger(s);
        if (v.bitLength() > 20 || !in(v.intValue(), low, high)) return -1;
        at++;
        return v.intValue();
    }
    private boolean item(World w) {
        String s = words.get(at);
        if (GROUND_WORDS.contains(s) || s.equals("fall")) {
            at++;
            int a = num(0, 30), b = a, v = GROUND_WORDS.indexOf(s);
            if (a < 0) return false;
            if (take("to") && (b = num(a, 30)) < 0) return false;
            int[] row = w.ground;
            if (s.equals("fall")) {
                if (!take("by")) return false;
                int sign = take("-") ? -1 : 1;
                v = num(0, 9);
                if (v < 0) return false;
                v *= sign;
                row = w.fall;
            }
            for (int c = a; c <= b; c++) row[c] = v;
            return true;
        }
        if (take("shut")) {
            int a = num(0, 59);
            if (a < 0 || !take("to")) return false;
            int b = num(0, 59);
            if (b < 0) return false;
            w.first = a;
            w.last = b;
            return true;
        }
        if (!KIND_WORDS.contains(s) || w.all.size() == 10) return false;
        at++;
        One t = new One(KIND_WORDS.indexOf(s), 10);
        w.all.add(t);
        if (take("weight") && (t.weight = num(1, 99)) < 0) return false;
        if (take("rolls") && (t.rolls = num(1, 9)) < 0) return false;
        return !take("lean") || (t.lean = num(0, 9)) >= 0;
    }

    int hold(int spot, int i) { if (!in(spot, 0, 9) || i != -1 && !isThing(i)) return no(BEYOND); now.spot[spot] = i; return 1; }
    int as(int spot, int kind) {
        if (!in(spot, 0, 9) || !in(kind, 0, 6)) return no(BEYOND);
        if (now.spot[spot] < 0) return no(MISSING);
        return KINDS[kind].getClass().isInstance(KINDS[now.all.get(now.spot[spot]).kind]) ? now.spot[spot] : no(KIND);
    }
    private boolean badSheet(int s) { return !in(s, 0, 3); }
    int sheet(int s, int b, int n) {
        if (badSheet(s) || b != 0 && b != 8 && b != 16 && b != 32) return no(BEYOND);
        if (n < 0) return no(SIZE);
        if (n > 40) return no(BEYOND);
        sheets[s] = b == 0 ? null : new int[n];
        bits[s] = b;
        return b == 0 ? 0 : n;
    }
    int write(int s, int i, int v) {
        if (badSheet(s)) return no(BEYOND);
        if (sheets[s] == null) return no(MISSING);
        if (!in(i, 0, sheets[s].length - 1)) return no(BEYOND);
        sheets[s][i] = v << 32 - bits[s] >> 32 - bits[s];
        return 1;
    }
    int copy(int s, int from, int t, int to, int n) {
        if (badSheet(s) || badSheet(t)) return no(BEYOND);
        if (sheets[s] == null || sheets[t] == null) return no(MISSING);
        if (bits[s] != bits[t]) return no(KIND);
        if (from < 0 || to < 0 || n < 0 || (long) from + n > sheets[s].length || (long) to + n > sheets[t].length) return no(BEYOND);
        int[] was = sheets[s].clone();
        for (int i = 0; i < n; i++) sheets[t][to + i] = was[from + i];
        return n;
    }
    int load(int s, int from) {
        if (badSheet(s)) return no(BEYOND);
        if (sheets[s] == null) return no(MISSING);
        if (!in(from, 0, 30)) return no(BEYOND);
        int n = 0;
        for (int v : sheets[s]) { if (!in(v, -9, 9) || from + n > 30) break; now.fall[from + n++] = v; }
        return n;
    }
    int judge(int s, int i) {
        if (badSheet(s)) return no(BEYOND);
        if (sheets[s] == null) return no(MISSING);
        if (!isThing(i)) return no(BEYOND);
        if (now.minute + sheets[s].length > 9999) return no(STATE);
        World w = now.copy();
        for (int k = 0; k < sheets[s].length; k++) { w.step(); if (w.all.get(i).cell != sheets[s][k]) return 1 + k; }
        return 0;
    }
    int image() { kept = now.copy(); return 1; }
    int undo() { if (kept == null) return no(NONE); now = kept.copy(); return now.minute; }
    int tear() { int was = kept == null ? 0 : 1; kept = null; return was; }
    int count(int what) {
        switch (what) {
            case 0: return now.minute;
            case 1: return now.all.size();
            case 2: return now.damage();
            case 3: return weigh(1023);
            case 4: return (int) Arrays.stream(now.ground).filter(g -> g == 0).count();
            case 5: return tape.length();
            case 6: return now.z;
            case 7: return (int) Arrays.stream(now.spot).filter(p -> p >= 0).count();
            default: return no(BEYOND);
        }
    }
    int status(int which) { return which == -1 ? Arrays.stream(found).sum() : in(which, 0, 6) ? found[which] : no(BEYOND); }
}
