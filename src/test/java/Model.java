import java.math.BigInteger;
import java.util.ArrayList;
import java.util.Comparator;
import java.util.List;
import java.util.regex.Matcher;
import java.util.regex.Pattern;

/** The document once more, plainly and slowly: ways are gone one by one, fractions are big numbers. */
final class Model {
    static final int BAD = -1, STATE = -2, FULL = -3, NONE = -9, NO = -1000000;

    record Branch(int height, int side, int thick, int sound, boolean wet, boolean nest) { }

    record Body(int reach, int weight, int grip) { }

    record Afternoon(int p, int lookers, int high) { }

    record Climb(int who, int where, int hurt, int top, int steps, int falls) { }

    record Image(Climb climb, int lot, int sawn) { }

    private static final Pattern TOKEN = Pattern.compile("([a-z]+)|([0-9]+)|(;)");
    private static final int[][] TUNES = {{1, 9}, {0, 4}, {0, 9}, {0, 10}, {1, 9}, {0, 20}};

    private String text = "";
    private List<Branch> branches = List.of();
    private List<Body> bodies = List.of();
    private final int[] tunes = {3, 2, 2, 4, 3, 0};
    private int sawn = 0;
    private final List<Afternoon> afternoons = new ArrayList<>();
    private Climb climb = new Climb(0, -1, 0, 0, 0, 0);
    private int lot = 1;
    private long trace = 0;
    private final Image[] images = new Image[2];

    // ---- the tree

    int type(long v, int n) {
        if (n < 1 || n > 8) return BAD;
        if (text.length() + n > 400) return FULL;
        StringBuilder s = new StringBuilder();
        for (int i = 0; i < n; i++) s.insert(0, (char) (v >> 8 * i & 255));
        text += s;
        return text.length();
    }

    int clear() {
        int had = text.length();
        text = "";
        return had;
    }

    int tree() {
        List<Branch> newBranches = new ArrayList<>();
        List<Body> newBodies = new ArrayList<>();
        int fault = parse(newBranches, newBodies);
        if (fault >= 0) return -10 - fault;
        text = "";
        branches = newBranches;
        bodies = newBodies;
        climb = new Climb(0, -1, 0, 0, 0, 0);
        sawn = 0;
        afternoons.clear();
        images[0] = null;
        images[1] = null;
        return branches.size() + bodies.size();
    }

    private int parse(List<Branch> newBranches, List<Body> newBodies) {
        List<String> tokens = new ArrayList<>();
        List<Integer> places = new ArrayList<>();
        int at = 0;
        Matcher m = TOKEN.matcher(text);
        while (at < text.length()) {
            if (text.charAt(at) == ' ') {
                at++;
                continue;
            }
            places.add(at);
            if (m.find(at) && m.start() == at) {
                tokens.add(m.group());
                at = m.end();
            } else {
                tokens.add("?");
                break;
            }
        }
        places.add(text.length());
        tokens.add("");
        int i = 0;
        while (!tokens.get(i).isEmpty()) {
            String head = tokens.get(i);
            boolean isBranch = head.equals("branch") && newBranches.size() < 12;
            boolean isBody = head.equals("body") && newBodies.size() < 3;
            if (!isBranch && !isBody) return places.get(i);
            int[][] bounds = isBranch ? new int[][] {{1, 99}, {0, 7}, {1, 30}, {0, 10}} : new int[][] {{1, 30}, {1, 99}, {0, 9}};
            int[] v = new int[bounds.length];
            i++;
            for (int k = 0; k < v.length; k++, i++) {
                if (!tokens.get(i).matches("0|[1-9][0-9]?")) return places.get(i);
                v[k] = Integer.parseInt(tokens.get(i));
                if (v[k] < bounds[k][0] || v[k] > bounds[k][1]) return places.get(i);
            }
            boolean wet = isBranch && tokens.get(i).equals("wet");
            if (wet) i++;
            boolean nest = isBranch && tokens.get(i).equals("nest");
            if (nest) i++;
            if (!tokens.get(i).equals(";")) return places.get(i);
            i++;
            if (isBranch) newBranches.add(new Branch(v[0], v[1], v[2], v[3], wet, nest));
            else newBodies.add(new Body(v[0], v[1], v[2]));
        }
        return -1;
    }

    int branch(int b, int what) {
        if (!isBranch(b)) return BAD;
        Branch x = branches.get(b);
        return switch (what) {
            case 0 -> x.height;
            case 1 -> x.side;
            case 2 -> x.thick;
            case 3 -> x.sound;
            case 4 -> x.wet ? 1 : 0;
            case 5 -> x.nest ? 1 : 0;
            case 6 -> isIn(sawn, b) ? 1 : 0;
            default -> BAD;
        };
    }

    int body(int p, int what) {
        if (!isBody(p)) return BAD;
        Body x = bodies.get(p);
        return what == 0 ? x.reach : what == 1 ? x.weight : what == 2 ? x.grip : BAD;
    }

    int tune(int what, int v) {
        if (what < 0 || what > 5 || v < TUNES[what][0] || v > TUNES[what][1]) return BAD;
        int was = tunes[what];
        tunes[what] = v;
        return was;
    }

    int sawn(int set) {
        int was = sawn;
        sawn = 0;
        for (int b = 0; b < branches.size(); b++) if (isIn(set, b)) sawn |= 1 << b;
        return was;
    }

    // ---- steps, ways

    private boolean isBranch(int b) {
        return b >= 0 && b < branches.size();
    }

    private boolean isPlace(int b) {
        return b >= -1 && b < branches.size();
    }

    private boolean isBody(int p) {
        return p >= 0 && p < bodies.size();
    }

    private static boolean isIn(int set, int b) {
        return b >= 0 && (set & 1 << b) != 0;
    }

    private int heightOf(int b) {
        return b == -1 ? 0 : branches.get(b).height;
    }

    private static int apart(int a, int b) {
        int right = 0;
        while ((a + right) % 8 != b) right++;
        int left = 0;
        while ((b + left) % 8 != a) left++;
        return Math.min(left, right);
    }

    private boolean may(int p, int from, int to, int more, int back, int off) {
        Body x = bodies.get(p);
        if (from == to || isIn(off, from) || isIn(off, to)) return false;
        int reach = x.reach + more;
        int low = heightOf(from);
        int high = heightOf(to);
        if (high > low && high - low > reach + (from == -1 ? back : 0)) return false;
        if (high < low && low - high > reach - tunes[2]) return false;
        if (from != -1 && to != -1 && apart(branches.get(from).side, branches.get(to).side) > tunes[1]) return false;
        return to == -1 || x.weight <= branches.get(to).thick * tunes[0];
    }

    int step(int p, int from, int to) {
        if (!isBody(p) || !isPlace(from) || !isPlace(to) || from == to) return BAD;
        return may(p, from, to, 0, tunes[5], sawn) ? 1 : 0;
    }

    private int tenths(int p, int b) {
        if (b == -1) return 10;
        Branch x = branches.get(b);
        int unsound = bodies.get(p).weight > x.thick ? 10 - x.sound : 0;
        int slips = x.wet ? Math.max(0, tunes[3] - bodies.get(p).grip) : 0;
        return Math.max(0, 10 - unsound - slips);
    }

    int holds(int p, int b) {
        return isBody(p) && isBranch(b) ? tenths(p, b) : BAD;
    }

    /** A way's odds are product by 10 to the steps. */
    private record Way(BigInteger product, int steps) {
        boolean isBetter(Way other) {
            if (other == null) return true;
            BigInteger mine = product.multiply(BigInteger.TEN.pow(other.steps));
            BigInteger its = other.product.multiply(BigInteger.TEN.pow(steps));
            return mine.compareTo(its) > 0 || mine.equals(its) && steps < other.steps;
        }
    }

    /** Goes all ways on that come to no place twice. */
    private void go(int p, int at, int been, Way way, Way[] best) {
        if (way.isBetter(best[at + 1])) best[at + 1] = way;
        for (int to = -1; to < branches.size(); to++) {
            int t = tenths(p, to);
            if ((been & 1 << to + 1) == 0 && t > 0 && may(p, at, to, 0, tunes[5], sawn)) {
                go(p, to, been | 1 << to + 1, new Way(way.product.multiply(BigInteger.valueOf(t)), way.steps + 1), best);
            }
        }
    }

    private Way[] bestFrom(int p, int from) {
        Way[] best = new Way[branches.size() + 1];
        go(p, from, 1 << from + 1, new Way(BigInteger.ONE, 0), best);
        return best;
    }

    long best(int p, int from, int to, int what) {
        if (!isBody(p) || !isPlace(from) || !isPlace(to) || what < 0 || what > 2) return BAD;
        Way way = bestFrom(p, from)[to + 1];
        if (way == null) return NONE;
        if (what == 2) return way.steps;
        return terms(way.product, BigInteger.TEN.pow(way.steps), what);
    }

    private static long terms(BigInteger upper, BigInteger lower, int what) {
        BigInteger d = upper.gcd(lower);
        return (what == 0 ? upper : lower).divide(d).longValueExact();
    }

    /** All pairs with a way of odds above 0, closed by and by. */
    private boolean[][] pairs(int p, int more, int back, int off) {
        int n = branches.size() + 1;
        boolean[][] r = new boolean[n][n];
        for (int i = 0; i < n; i++) {
            for (int k = 0; k < n; k++) r[i][k] = i == k || may(p, i - 1, k - 1, more, back, off) && tenths(p, k - 1) > 0;
        }
        for (int k = 0; k < n; k++) {
            for (int i = 0; i < n; i++) {
                for (int j = 0; j < n; j++) r[i][j] |= r[i][k] && r[k][j];
            }
        }
        return r;
    }

    private int highOf(int p, int back, int off, boolean too) {
        boolean[][] r = pairs(p, 0, back, off);
        int top = 0;
        for (int b = 0; b < branches.size(); b++) {
            if (r[0][b + 1] && (!too || r[b + 1][0])) top = Math.max(top, heightOf(b));
        }
        return top;
    }

    int high(int p, int what) {
        return isBody(p) && (what == 0 || what == 1) ? highOf(p, tunes[5], sawn, what == 1) : BAD;
    }

    int sure(int p, int h) {
        if (!isBody(p) || h < 0 || h > 100) return BAD;
        Way[] best = bestFrom(p, -1);
        int top = 0;
        for (int b = 0; b < branches.size(); b++) {
            Way w = best[b + 1];
            if (w != null && w.product.multiply(BigInteger.valueOf(100))
                .compareTo(BigInteger.TEN.pow(w.steps).multiply(BigInteger.valueOf(h))) >= 0) {
                top = Math.max(top, heightOf(b));
            }
        }
        return top;
    }

    int help(int p, int b) {
        return isBody(p) && b >= 0 && b <= 20 ? highOf(p, b, sawn, false) - highOf(p, 0, sawn, false) : BAD;
    }

    int stuck(int p, int b) {
        if (!isBody(p) || !isBranch(b)) return BAD;
        for (int r = 0; r <= 30; r++) if (pairs(p, r, tunes[5], sawn)[b + 1][0]) return r;
        return NONE;
    }

    long rubbed(int p, int b, int set) {
        if (!isBody(p) || !isBranch(b)) return BAD;
        return ascents(p, -1, 0, b, set & (1 << branches.size()) - 1);
    }

    private long ascents(int p, int at, int been, int goal, int set) {
        if (at == goal) return (set & ~been) == 0 ? 1 : 0;
        long sum = 0;
        for (int to = 0; to < branches.size(); to++) {
            if (heightOf(to) > heightOf(at) && may(p, at, to, 0, tunes[5], sawn)) {
                sum += ascents(p, to, been | 1 << to, goal, set);
            }
        }
        return sum;
    }

    // ---- tries, sway, falls

    private BigInteger[] triedOf(int b, int q, int n) {
        int sound = branches.get(b).sound;
        BigInteger upper = BigInteger.valueOf(sound).multiply(BigInteger.TEN.pow(n));
        BigInteger rest = BigInteger.valueOf(10 - sound).multiply(BigInteger.valueOf(10 - q).pow(n));
        BigInteger lower = upper.add(rest);
        return new BigInteger[] {upper, lower.signum() == 0 ? BigInteger.ONE : lower};
    }

    long tried(int b, int q, int n, int what) {
        if (!isBranch(b) || q < 0 || q > 10 || n < 0 || n > 9 || what < 0 || what > 1) return BAD;
        BigInteger[] f = triedOf(b, q, n);
        return terms(f[0], f[1], what);
    }

    int tries(int b, int q, int h) {
        if (!isBranch(b) || q < 0 || q > 10 || h < 0 || h > 100) return BAD;
        for (int n = 0; n <= 9; n++) {
            BigInteger[] f = triedOf(b, q, n);
            if (f[0].multiply(BigInteger.valueOf(100)).compareTo(f[1].multiply(BigInteger.valueOf(h))) >= 0) return n;
        }
        return NONE;
    }

    int sway(int p, int b, int w) {
        if (!isBody(p) || !isBranch(b) || w < 0 || w > 20) return BAD;
        long wide = 0;
        long speed = 0;
        long most = 0;
        for (int i = 0; i < 24; i++) {
            long more = w * heightOf(b) / 10 - wide * branches.get(b).thick / 10 - speed / 4;
            speed += more;
            wide += speed;
            if (Math.abs(wide) > most) most = Math.abs(wide);
        }
        return (int) (most * bodies.get(p).weight / 50);
    }

    int calm(int p, int b, int l) {
        if (!isBody(p) || !isBranch(b) || l < 0 || l > 9999) return BAD;
        int w = 0;
        while (w < 20 && sway(p, b, w + 1) <= l) w++;
        return w;
    }

    private int[] fallOf(int b, int off) {
        List<Integer> hit = new ArrayList<>();
        for (int o = 0; o < branches.size(); o++) {
            if (heightOf(o) < heightOf(b) && apart(branches.get(o).side, branches.get(b).side) <= 1 && !isIn(off, o)) hit.add(o);
        }
        hit.sort(Comparator.comparingInt((Integer o) -> -heightOf(o)).thenComparingInt(o -> o));
        int speed = 0;
        int last = heightOf(b);
        int harm = 0;
        int set = 0;
        for (int o : hit) {
            speed += last - heightOf(o);
            last = heightOf(o);
            harm += Math.floorDiv(speed, 2);
            speed = Math.floorDiv(speed, 2);
            set |= 1 << o;
        }
        speed += last;
        return new int[] {harm + speed * tunes[4], set};
    }

    int fall(int b, int what) {
        return isBranch(b) && (what == 0 || what == 1) ? fallOf(b, sawn)[what] : BAD;
    }

    int saw(int p, int m, int h, int what) {
        if (!isBody(p) || m < 0 || m > 9999 || h < 0 || h > 99 || what < 0 || what > 1) return BAD;
        for (int many = 0; many <= 3; many++) {
            for (int set = 0; set < 1 << branches.size(); set++) {
                if (Integer.bitCount(set) != many || (set & sawn) != 0) continue;
                int off = sawn | set;
                boolean[] to = pairs(p, 0, tunes[5], off)[0];
                boolean good = highOf(p, tunes[5], off, false) >= h;
                for (int b = 0; b < branches.size(); b++) good &= !to[b + 1] || fallOf(b, off)[0] <= m;
                if (good) return what == 0 ? set : many;
            }
        }
        return NONE;
    }

    // ---- afternoons

    int afternoon(int p, int lookers, int high) {
        if (!isBody(p) || lookers < 0 || lookers > 9 || high < 0 || high > 99) return BAD;
        if (afternoons.size() == 40) return FULL;
        afternoons.add(new Afternoon(p, lookers, high));
        return afternoons.size();
    }

    int dares(int p, int l, int h, int what) {
        if (!isBody(p) || l < 0 || l > 9 || h < 0 || h > 99 || what < 0 || what > 1) return BAD;
        long all = afternoons.stream().filter(a -> a.p == p && a.lookers >= l).count();
        long so = afternoons.stream().filter(a -> a.p == p && a.lookers >= l && a.high >= h).count();
        return (int) terms(BigInteger.valueOf(so), BigInteger.valueOf(all == 0 ? 1 : all), what);
    }

    int looked(int p) {
        if (!isBody(p)) return NO;
        int[] with = afternoons.stream().filter(a -> a.p == p && a.lookers > 0).mapToInt(Afternoon::high).toArray();
        int[] without = afternoons.stream().filter(a -> a.p == p && a.lookers == 0).mapToInt(Afternoon::high).toArray();
        if (with.length == 0 || without.length == 0) return NO;
        return mean(with) - mean(without);
    }

    private static int mean(int[] v) {
        int sum = 0;
        for (int x : v) sum += x;
        return Math.floorDiv(100 * sum, v.length);
    }

    // ---- the climb

    int goes(int p) {
        if (!isBody(p)) return BAD;
        int was = climb.who;
        climb = new Climb(p, -1, 0, 0, 0, 0);
        return was;
    }

    int climb(int to) {
        Climb c = climb;
        if (!isBody(c.who) || !isPlace(to) || !may(c.who, c.where, to, 0, tunes[5], sawn)) return NO;
        boolean held = true;
        if (to != -1) {
            lot = lot * 1103515245 + 12345;
            held = (lot >> 16 & 65535) % 10 < tenths(c.who, to);
        }
        if (held) {
            climb = new Climb(c.who, to, c.hurt, Math.max(c.top, heightOf(to)), c.steps + 1, c.falls);
        } else {
            int harm = c.where == -1 ? 0 : fallOf(c.where, sawn)[0];
            climb = new Climb(c.who, -1, c.hurt + harm, c.top, c.steps, c.falls + 1);
        }
        return climb.where;
    }

    int now(int what) {
        return switch (what) {
            case 0 -> climb.who;
            case 1 -> climb.where;
            case 2 -> climb.hurt;
            case 3 -> climb.top;
            case 4 -> climb.steps;
            case 5 -> climb.falls;
            default -> NO;
        };
    }

    int lot(int v) {
        int was = lot;
        lot = v;
        return was;
    }

    // ---- kinds, images

    int mark(int kind, int b) {
        if (kind < 0 || kind > 5 || !isBranch(b)) return NO;
        return markOf(kind, branches.get(b));
    }

    /** Kinds here in the order of their brackets: branch, sound, dead, seeming, bent, wet. */
    private int markOf(int kind, Branch x) {
        int[] above = {-1, 0, 0, 2, 1, 0};
        trace += BigInteger.TEN.pow(kind).longValue();
        int up = above[kind] == -1 ? 0 : markOf(above[kind], x);
        return switch (kind) {
            case 0 -> x.height;
            case 1 -> up + x.thick;
            case 2 -> up - (10 - x.sound);
            case 3 -> 2 * up;
            case 4 -> up - x.side;
            default -> x.wet ? up + 5 : up;
        };
    }

    int keep(int image) {
        if (image < 0 || image > 1) return BAD;
        images[image] = new Image(climb, lot, sawn);
        return climb.hurt;
    }

    int back(int image) {
        if (image < 0 || image > 1) return BAD;
        if (images[image] == null) return STATE;
        climb = images[image].climb;
        lot = images[image].lot;
        sawn = images[image].sawn;
        return climb.hurt;
    }

    int count(int what) {
        return switch (what) {
            case 0 -> branches.size();
            case 1 -> bodies.size();
            case 2 -> afternoons.size();
            case 3 -> Integer.bitCount(sawn);
            case 4 -> text.length();
            default -> BAD;
        };
    }

    long trace() {
        return trace;
    }
}
