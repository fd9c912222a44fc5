import java.util.ArrayList;
import java.util.Arrays;
import java.util.List;

/** The document once more, by trying everything: slow, short, and written apart from the class. */
final class PlainTown {
    static final class Thing {
        int number, kind, x, y, house, since, faces = -1, cost = 1, gone = -1;

        Thing(int number, int kind, int x, int y, int house, int since, int faces) {
            this.number = number;
            this.kind = kind;
            this.x = x;
            this.y = y;
            this.house = house;
            this.since = since;
            this.faces = faces;
        }

        Thing copy() {
            Thing t = new Thing(number, kind, x, y, house, since, faces);
            t.cost = cost;
            t.gone = gone;
            return t;
        }

        int point() {
            return 8 * y + x;
        }
    }

    static final class Town {
        int width, height, a, b;
        List<Thing> things = new ArrayList<>();
        List<int[]> walls = new ArrayList<>(), fences = new ArrayList<>(), leaves = new ArrayList<>();
        List<int[]> objections = new ArrayList<>(), wishes = new ArrayList<>();
        int[] wind = new int[8], grow = new int[6];

        Town() {
            Arrays.fill(wind, -1);
            Arrays.fill(grow, -1);
        }

        Town copy() {
            Town t = new Town();
            t.width = width;
            t.height = height;
            t.a = a;
            t.b = b;
            for (Thing th : things) {
                t.things.add(th.copy());
            }
            t.walls.addAll(walls);
            t.fences.addAll(fences);
            t.leaves.addAll(leaves);
            t.objections.addAll(objections);
            t.wishes.addAll(wishes);
            t.wind = wind.clone();
            t.grow = grow.clone();
            return t;
        }
    }

    static final class Law {
        List<int[]> rules = new ArrayList<>();
        boolean harm, leave;
        int silent = -1;
    }

    static final class State {
        StringBuilder tape = new StringBuilder();
        int fault = 0, place = -1;
        List<Town> towns = new ArrayList<>();
        List<Law> laws = new ArrayList<>();

        State copy() {
            State s = new State();
            s.tape.append(tape);
            s.fault = fault;
            s.place = place;
            for (Town t : towns) {
                s.towns.add(t.copy());
            }
            s.laws.addAll(laws);
            return s;
        }
    }

    State now = new State();
    final State[] images = new State[3];

    // ---- texts

    private static final String[] TOWN_LINES = {"thing N N N N N ;", "thing N N N N N faces N ;", "wall N N N N N ;",
        "fence N N N N ;", "wind N N ;", "slope up N up N ;", "slope up N down N ;", "slope down N up N ;",
        "slope down N down N ;", "leave N N N ;", "object N N N ;", "cost N N ;", "grow N N ;"};
    private static final String[] LAW_LINES = {"far N N N ;", "far N N N wall ;", "wind N N N ;", "wind N N N wall ;",
        "flow N N N ;", "flow N N N wall ;", "face N N N ;", "face N N N wall ;", "later ;", "harm ;", "leave ;", "silent N ;"};

    private final List<String> tokens = new ArrayList<>();
    private final List<Integer> starts = new ArrayList<>();

    /** A token's text; "" is the end, "?" what is no token. */
    private void split(String s) {
        tokens.clear();
        starts.clear();
        int i = 0;
        while (i < s.length()) {
            char c = s.charAt(i);
            if (c == 10 || c == 32) {
                i++;
                continue;
            }
            int j = i + 1;
            String set = c >= 'a' && c <= 'z' ? "abcdefghijklmnopqrstuvwxyz" : c >= '0' && c <= '9' ? "0123456789" : "";
            while (j < s.length() && set.indexOf(s.charAt(j)) >= 0) {
                j++;
            }
            boolean good = c == ';' || c >= 'a' && c <= 'z' || c >= '0' && c <= '9' && j - i <= 4;
            tokens.add(good ? s.substring(i, j) : "?");
            starts.add(i);
            i = j;
        }
        tokens.add("");
        starts.add(s.length());
    }

    private static boolean fits(String want, String token) {
        return want.equals("N") ? !token.isEmpty() && Character.isDigit(token.charAt(0)) : want.equals(token);
    }

    /** How many tokens the line at a place has, or minus 1 minus the token with which none goes on. */
    private int match(String[] forms, int at) {
        List<String[]> open = new ArrayList<>();
        for (String f : forms) {
            open.add(f.split(" "));
        }
        for (int i = 0;; i++) {
            List<String[]> still = new ArrayList<>();
            for (String[] f : open) {
                if (fits(f[i], tokens.get(at + i))) {
                    if (f.length == i + 1) {
                        return i + 1;
                    }
                    still.add(f);
                }
            }
            if (still.isEmpty()) {
                return -1 - (at + i);
            }
            open = still;
        }
    }

    private final List<int[]> faults = new ArrayList<>();

    private void fault(int code, int token) {
        faults.add(new int[] {starts.get(token), code});
    }

    private int number(int token, int least, int most) {
        int v = Integer.parseInt(tokens.get(token));
        if (v < least || v > most) {
            fault(2, token);
        }
        return v;
    }

    /** The lines' first tokens, or null after a fault of the form. */
    private List<Integer> lines(String[] forms, boolean sized) {
        List<Integer> heads = new ArrayList<>();
        int at = 0;
        if (sized) {
            int n = match(new String[] {"size N N ;"}, 0);
            if (n < 0) {
                fault(1, -1 - n);
                return null;
            }
            at = n;
        }
        while (!tokens.get(at).isEmpty()) {
            int n = match(forms, at);
            if (n < 0) {
                fault(1, -1 - n);
                return null;
            }
            heads.add(at);
            at += n;
        }
        return heads;
    }

    private Town readTown(String text) {
        split(text);
        faults.clear();
        Town t = new Town();
        List<Integer> heads = lines(TOWN_LINES, true);
        if (heads == null) {
            return null;
        }
        t.width = number(1, 1, 8);
        t.height = number(2, 1, 8);
        for (int n = 0; n < heads.size() && faults.isEmpty(); n++) {
            if (n >= 40) {
                fault(3, heads.get(n));
            }
            readLine(t, heads.get(n));
        }
        return faults.isEmpty() ? t : null;
    }

    private void readLine(Town t, int h) {
        switch (tokens.get(h)) {
            case "thing": {
                full(t.things.size(), 12, h);
                int x = number(h + 2, 0, t.width - 1);
                int y = number(h + 3, 0, t.height - 1);
                for (Thing o : t.things) {
                    if (o.x == x && o.y == y) {
                        fault(4, h + 2);
                    }
                }
                boolean f = tokens.get(h + 6).equals("faces");
                t.things.add(new Thing(t.things.size(), number(h + 1, 0, 5), x, y, number(h + 4, 0, 7),
                    number(h + 5, 0, 999), f ? number(h + 7, 0, 3) : -1));
                break;
            }
            case "wall":
                full(t.walls.size(), 8, h);
                t.walls.add(span(t, h, 5));
                break;
            case "fence":
                full(t.fences.size(), 6, h);
                t.fences.add(span(t, h, 4));
                break;
            case "wind": {
                int hour = number(h + 1, 0, 7);
                t.wind[hour & 7] = number(h + 2, 0, 7);
                break;
            }
            case "slope":
                t.a = number(h + 2, 0, 9) * (tokens.get(h + 1).equals("up") ? 1 : -1);
                t.b = number(h + 4, 0, 9) * (tokens.get(h + 3).equals("up") ? 1 : -1);
                break;
            case "leave":
                full(t.leaves.size(), 12, h);
                t.leaves.add(new int[] {number(h + 1, 0, 7), number(h + 2, 0, 7), number(h + 3, 0, 999)});
                break;
            case "object": {
                full(t.objections.size(), 12, h);
                int who = number(h + 1, 0, t.things.size() - 1);
                int whom = number(h + 2, 0, t.things.size() - 1);
                if (who == whom) {
                    fault(2, h + 2);
                }
                t.objections.add(new int[] {who, whom, number(h + 3, 0, 999)});
                break;
            }
            case "cost": {
                int who = number(h + 1, 0, t.things.size() - 1);
                int cost = number(h + 2, 0, 99);
                if (who < t.things.size()) {
                    t.things.get(who).cost = cost;
                }
                break;
            }
            default: {
                int kind = number(h + 1, 0, 5);
                t.grow[kind % 6] = number(h + 2, 1, 99);
                break;
            }
        }
    }

    private void full(int has, int most, int head) {
        if (has >= most) {
            fault(3, head);
        }
    }

    private int[] span(Town t, int h, int many) {
        int[] s = new int[many];
        for (int i = 0; i < many; i++) {
            s[i] = number(h + 1 + i, 0, i == 4 ? 999 : (i % 2 == 0 ? t.width : t.height) - 1);
        }
        if (s[0] == s[2] && s[1] == s[3]) {
            fault(2, h + 4);
        }
        return s;
    }

    private Law readLaw(String text) {
        split(text);
        faults.clear();
        Law l = new Law();
        List<Integer> heads = lines(LAW_LINES, false);
        if (heads == null) {
            return null;
        }
        for (int n = 0; n < heads.size() && faults.isEmpty(); n++) {
            int h = heads.get(n);
            String word = tokens.get(h);
            if (word.equals("later") || word.equals("harm")) {
                l.harm = word.equals("harm");
            } else if (word.equals("leave")) {
                l.leave = true;
            } else if (word.equals("silent")) {
                l.silent = number(h + 1, 1, 99);
            } else {
                full(l.rules.size(), 10, h);
                l.rules.add(new int[] {Arrays.asList("far", "wind", "flow", "face").indexOf(word), number(h + 1, 0, 5),
                    number(h + 2, 0, 5), number(h + 3, 1, 12), tokens.get(h + 4).equals("wall") ? 1 : 0});
            }
        }
        return faults.isEmpty() ? l : null;
    }

    private void settle() {
        for (int[] f : faults) {
            if (now.fault == 0 || f[0] < now.place || f[0] == now.place && f[1] < now.fault) {
                now.fault = f[1];
                now.place = f[0];
            }
        }
    }

    // ---- the tape

    int feed(int a, int b, int c, int d, int e) {
        if (now.tape.length() + 20 > 500) {
            return -1;
        }
        for (int v : new int[] {a, b, c, d, e}) {
            for (int i = 3; i >= 0; i--) {
                now.tape.append((char) (v >> 8 * i & 255));
            }
        }
        return now.tape.length();
    }

    int end(int n) {
        if (n < 0 || n > now.tape.length()) {
            return -1;
        }
        now.tape.setLength(n);
        return n;
    }

    int town(int at) {
        String text = now.tape.toString();
        now.tape.setLength(0);
        now.fault = 0;
        now.place = -1;
        if (at == -1 ? now.towns.size() == 3 : at < 0 || at >= now.towns.size()) {
            return -2;
        }
        Town t = readTown(text);
        settle();
        if (t == null) {
            return -1;
        }
        if (at >= 0) {
            now.towns.set(at, t);
            return at;
        }
        now.towns.add(t);
        return now.towns.size() - 1;
    }

    int law(int at) {
        String text = now.tape.toString();
        now.tape.setLength(0);
        now.fault = 0;
        now.place = -1;
        if (at == -1 ? now.laws.size() == 3 : at < 0 || at >= now.laws.size()) {
            return -2;
        }
        Law l = readLaw(text);
        settle();
        if (l == null) {
            return -1;
        }
        if (at >= 0) {
            now.laws.set(at, l);
            return at;
        }
        now.laws.add(l);
        return now.laws.size() - 1;
    }

    int fault(int what) {
        return what == 0 ? now.fault : what == 1 ? now.place : -1;
    }

    boolean image(int k) {
        if (k < 0 || k > 2) {
            return false;
        }
        images[k] = now.copy();
        return true;
    }

    boolean again(int k) {
        if (k < 0 || k > 2 || images[k] == null) {
            return false;
        }
        now = images[k].copy();
        return true;
    }

    int count(int what) {
        return what == 0 ? now.towns.size() : what == 1 ? now.laws.size() : -2;
    }

    // ---- what is told

    Town t(int town) {
        return town < 0 || town >= now.towns.size() ? null : now.towns.get(town);
    }

    Law l(int law) {
        return law < 0 || law >= now.laws.size() ? null : now.laws.get(law);
    }

    static boolean day(int d) {
        return d >= 0 && d <= 999;
    }

    static boolean has(Town t, int thing) {
        return t != null && thing >= 0 && thing < t.things.size();
    }

    static boolean in(int v, int least, int most) {
        return v >= least && v <= most;
    }

    int about(int town, int what) {
        Town t = t(town);
        if (t == null) {
            return -10000;
        }
        int[] all = {t.width, t.height, t.things.size(), t.walls.size(), t.fences.size(), t.a, t.b, t.leaves.size(),
            t.objections.size(), t.wishes.size()};
        return in(what, 0, 9) ? all[what] : in(what, 20, 27) ? t.wind[what - 20] : in(what, 30, 35) ? t.grow[what - 30] : -10000;
    }

    int thing(int town, int thing, int what) {
        Town t = t(town);
        if (!has(t, thing) || !in(what, 0, 7)) {
            return -10000;
        }
        Thing h = t.things.get(thing);
        return new int[] {h.kind, h.x, h.y, h.house, h.since, h.faces, h.cost, h.gone}[what];
    }

    int ruled(int law, int what) {
        Law l = l(law);
        if (l == null) {
            return -1;
        }
        if (in(what, 0, 3)) {
            return new int[] {l.rules.size(), l.harm ? 1 : 0, l.leave ? 1 : 0, l.silent}[what];
        }
        for (int r = 0; r < l.rules.size(); r++) {
            for (int i = 0; i < 5; i++) {
                if (what == 10 + 10 * i + r) {
                    return l.rules.get(r)[i];
                }
            }
        }
        return -1;
    }

    int add(int town, int kind, int x, int y, int house, int since, int faces) {
        Town t = t(town);
        if (t == null || t.things.size() == 12 || !in(kind, 0, 5) || !in(x, 0, t.width - 1) || !in(y, 0, t.height - 1)
            || !in(house, 0, 7) || !day(since) || !in(faces, -1, 3)) {
            return -1;
        }
        for (Thing o : t.things) {
            if (o.x == x && o.y == y) {
                return -1;
            }
        }
        t.things.add(new Thing(t.things.size(), kind, x, y, house, since, faces));
        return t.things.size() - 1;
    }

    boolean gone(int town, int thing, int day) {
        Town t = t(town);
        if (!has(t, thing) || !day(day) || day <= t.things.get(thing).since) {
            return false;
        }
        t.things.get(thing).gone = day;
        return true;
    }

    int wish(int town, int kind, int faces) {
        Town t = t(town);
        if (t == null || !in(kind, 0, 5) || !in(faces, -1, 3) || t.wishes.size() == 3) {
            return -1;
        }
        t.wishes.add(new int[] {kind, faces});
        return t.wishes.size();
    }

    boolean forget(int town) {
        Town t = t(town);
        boolean some = t != null && !t.wishes.isEmpty();
        if (some) {
            t.wishes.clear();
        }
        return some;
    }

    // ---- what follows

    static int square(Thing a, Thing b) {
        return (a.x - b.x) * (a.x - b.x) + (a.y - b.y) * (a.y - b.y);
    }

    /** Whether two straight ways share a point: p + t r = q + u s with t and u in 0 .. 1. */
    static boolean meet(int[] w, Thing a, Thing b) {
        int rx = b.x - a.x, ry = b.y - a.y, sx = w[2] - w[0], sy = w[3] - w[1];
        int qx = w[0] - a.x, qy = w[1] - a.y;
        int det = rx * sy - ry * sx;
        if (det != 0) {
            int t = (qx * sy - qy * sx) * Integer.signum(det);
            int u = (qx * ry - qy * rx) * Integer.signum(det);
            return t >= 0 && t <= Math.abs(det) && u >= 0 && u <= Math.abs(det);
        }
        if (qx * ry - qy * rx != 0) {
            return false;
        }
        return Math.max(Math.min(a.x, b.x), Math.min(w[0], w[2])) <= Math.min(Math.max(a.x, b.x), Math.max(w[0], w[2]))
            && Math.max(Math.min(a.y, b.y), Math.min(w[1], w[3])) <= Math.min(Math.max(a.y, b.y), Math.max(w[1], w[3]));
    }

    static int walls(Town t, Thing a, Thing b, int day) {
        int n = 0;
        for (int[] w : t.walls) {
            if (w[4] <= day && meet(w, a, b)) {
                n++;
            }
        }
        return n;
    }

    static int grown(Town t, Thing a, int day) {
        int n = 0;
        if (t.grow[a.kind] > 0) {
            for (int d = a.since + t.grow[a.kind]; d <= day && n < 9; d += t.grow[a.kind]) {
                n++;
            }
        }
        return n;
    }

    static boolean downwind(int toward, Thing a, Thing b) {
        int[][] uv = {{1, 0}, {1, 1}, {0, 1}, {-1, 1}, {-1, 0}, {-1, -1}, {0, -1}, {1, -1}};
        if (toward < 0) {
            return false;
        }
        int dx = b.x - a.x, dy = b.y - a.y, u = uv[toward][0], v = uv[toward][1];
        return dx * u + dy * v > 0 && dx * u + dy * v >= Math.abs(dx * v - dy * u);
    }

    static boolean ahead(Thing a, Thing b) {
        switch (a.faces) {
            case 0: return a.y == b.y && b.x > a.x;
            case 1: return a.x == b.x && b.y > a.y;
            case 2: return a.y == b.y && b.x < a.x;
            case 3: return a.x == b.x && b.y < a.y;
            default: return false;
        }
    }

    static boolean stands(Thing a, int day) {
        return a.since <= day && (a.gone < 0 || day < a.gone);
    }

    /** All bars among some things: first, second, rule. */
    static List<int[]> bars(Town t, List<Thing> things, Law l, int day) {
        List<int[]> all = new ArrayList<>();
        for (Thing a : things) {
            for (Thing b : things) {
                for (int r = 0; r < l.rules.size(); r++) {
                    int[] rule = l.rules.get(r);
                    boolean even = (rule[0] == 0 || rule[0] == 3) && rule[1] == rule[2];
                    if (a == b || !stands(a, day) || !stands(b, day) || a.kind != rule[1] || b.kind != rule[2]
                        || even && a.number > b.number) {
                        continue;
                    }
                    int far = rule[3] + grown(t, a, day) + grown(t, b, day);
                    boolean so = Math.sqrt(square(a, b)) < far - 1e-9;
                    if (rule[0] == 1) {
                        boolean some = false;
                        for (int w : t.wind) {
                            some |= downwind(w, a, b);
                        }
                        so &= some;
                    }
                    so &= rule[0] != 2 || t.a * a.x + t.b * a.y > t.a * b.x + t.b * b.y;
                    so &= rule[0] != 3 || ahead(a, b) && ahead(b, a);
                    so &= rule[4] == 0 || walls(t, a, b, day) == 0;
                    if (so) {
                        all.add(new int[] {a.number, b.number, r});
                    }
                }
            }
        }
        all.sort((p, q) -> Arrays.compare(p, q));
        return all;
    }

    List<int[]> bars(int town, int law, int day) {
        Town t = t(town);
        Law l = l(law);
        return t == null || l == null || !day(day) ? null : bars(t, t.things, l, day);
    }

    int apart(int town, int a, int b) {
        Town t = t(town);
        return has(t, a) && has(t, b) ? square(t.things.get(a), t.things.get(b)) : -1;
    }

    int between(int town, int a, int b, int day) {
        Town t = t(town);
        return has(t, a) && has(t, b) && a != b && day(day) ? walls(t, t.things.get(a), t.things.get(b), day) : -1;
    }

    int grown(int town, int thing, int day) {
        Town t = t(town);
        return has(t, thing) && day(day) ? grown(t, t.things.get(thing), day) : -1;
    }

    int goer(Town t, Law l, int[] bar, int day) {
        Thing a = t.things.get(bar[0]), b = t.things.get(bar[1]);
        Thing he = l.harm ? a : later(a, b) ? a : b;
        Thing other = he == a ? b : a;
        if (l.leave) {
            for (int[] v : t.leaves) {
                if (v[0] == other.house && v[1] == he.house && v[2] <= he.since) {
                    return -1;
                }
            }
        }
        int both = Math.max(a.since, b.since);
        if (l.silent >= 0 && day - both >= l.silent) {
            boolean spoke = false;
            for (int[] o : t.objections) {
                spoke |= o[0] == other.number && o[1] == he.number && o[2] >= both && o[2] - both <= l.silent;
            }
            if (!spoke) {
                return -1;
            }
        }
        return he.number;
    }

    static boolean later(Thing a, Thing b) {
        return a.since != b.since ? a.since > b.since : a.number > b.number;
    }

    int bar(int town, int law, int day, int k, int what) {
        List<int[]> all = bars(town, law, day);
        if (all == null || k < 0 || k >= all.size() || !in(what, 0, 4)) {
            return -10000;
        }
        int[] bar = all.get(k);
        Town t = t(town);
        if (what < 3) {
            return bar[what];
        }
        if (what == 4) {
            return goer(t, l(law), bar, day);
        }
        Thing a = t.things.get(bar[0]), b = t.things.get(bar[1]);
        int far = l(law).rules.get(bar[2])[3] + grown(t, a, day) + grown(t, b, day);
        int less = 0;
        while ((far - less) * (far - less) > square(a, b)) {
            less++;
        }
        return less;
    }

    int goes(int town, int law, int day) {
        List<int[]> all = bars(town, law, day);
        if (all == null) {
            return -1;
        }
        int set = 0;
        for (int[] bar : all) {
            int g = goer(t(town), l(law), bar, day);
            set |= g < 0 ? 0 : 1 << g;
        }
        return set;
    }

    int pays(int town, int law, int day, int house) {
        List<int[]> all = bars(town, law, day);
        if (all == null || !in(house, 0, 7)) {
            return -1;
        }
        Town t = t(town);
        int sum = 0;
        for (Thing h : t.things) {
            for (int[] bar : all) {
                if (goer(t, l(law), bar, day) == h.number) {
                    Thing other = t.things.get(bar[0] + bar[1] - h.number);
                    sum += (later(h, other) ? h : other).house == house ? h.cost : 0;
                    break;
                }
            }
        }
        return sum;
    }

    int first(int town, int law, int a, int b) {
        Town t = t(town);
        if (!has(t, a) || !has(t, b) || a == b || l(law) == null) {
            return -1;
        }
        for (int d = 0; d <= 999; d++) {
            if (!bars(t, List.of(t.things.get(a), t.things.get(b)), l(law), d).isEmpty()) {
                return d;
            }
        }
        return -1;
    }

    static List<Thing> standing(Town t, int day) {
        List<Thing> all = new ArrayList<>();
        for (Thing h : t.things) {
            if (stands(h, day)) {
                all.add(h);
            }
        }
        return all;
    }

    static boolean touches(List<int[]> bars, int from) {
        for (int[] b : bars) {
            if (b[0] >= from || b[1] >= from) {
                return true;
            }
        }
        return false;
    }

    boolean may(int town, int law, int day, int kind, int x, int y, int faces) {
        Town t = t(town);
        if (t == null || l(law) == null || !day(day) || !in(kind, 0, 5) || !in(faces, -1, 3) || !in(x, 0, t.width - 1)
            || !in(y, 0, t.height - 1)) {
            return false;
        }
        List<Thing> all = standing(t, day);
        for (Thing h : all) {
            if (h.x == x && h.y == y) {
                return false;
            }
        }
        all.add(new Thing(100, kind, x, y, 0, day, faces));
        return !touches(bars(t, all, l(law), day), 100);
    }

    List<Integer> spotList(int town, int law, int day, int kind, int faces) {
        Town t = t(town);
        if (t == null || l(law) == null || !day(day) || !in(kind, 0, 5) || !in(faces, -1, 3)) {
            return null;
        }
        List<Integer> all = new ArrayList<>();
        for (int y = 0; y < 8; y++) {
            for (int x = 0; x < 8; x++) {
                if (may(town, law, day, kind, x, y, faces)) {
                    all.add(8 * y + x);
                }
            }
        }
        return all;
    }

    int spots(int town, int law, int day, int kind, int faces) {
        List<Integer> all = spotList(town, law, day, kind, faces);
        return all == null ? -1 : all.size();
    }

    int spot(int town, int law, int day, int kind, int faces, int k) {
        List<Integer> all = spotList(town, law, day, kind, faces);
        return all == null || k < 0 || k >= all.size() ? -1 : all.get(k);
    }

    static boolean free(Town t, List<Thing> all, int x, int y) {
        if (x >= t.width || y >= t.height) {
            return false;
        }
        for (Thing h : all) {
            if (h.x == x && h.y == y) {
                return false;
            }
        }
        return true;
    }

    /** Adds guests at points, the least row first, with no bar that one of them is in. */
    boolean seat(Town t, Law l, int day, List<Thing> all, List<Thing> guests, int n) {
        if (n == guests.size()) {
            return true;
        }
        Thing g = guests.get(n);
        int x0 = g.x, y0 = g.y;
        for (int p = 0; p < 64; p++) {
            if (p % 8 == x0 && p / 8 == y0 || !free(t, all, p % 8, p / 8)) {
                continue;
            }
            g.x = p % 8;
            g.y = p / 8;
            all.add(g);
            boolean barred = false;
            for (Thing h : all) {
                barred |= h != g && !bars(t, List.of(h, g), l, day).isEmpty();
            }
            if (!barred && seat(t, l, day, all, guests, n + 1)) {
                return true;
            }
            all.remove(g);
        }
        g.x = x0;
        g.y = y0;
        return false;
    }

    List<Thing> plan(Town t, Law l, int day, boolean bare) {
        List<Thing> guests = new ArrayList<>();
        for (int[] w : t.wishes) {
            guests.add(new Thing(100 + guests.size(), w[0], -1, -1, 0, day, w[1]));
        }
        return seat(t, l, day, bare ? new ArrayList<>() : standing(t, day), guests, 0) ? guests : null;
    }

    int plan(int town, int law, int day, boolean bare, int k) {
        Town t = t(town);
        if (t == null || l(law) == null || !day(day)) {
            return -1;
        }
        List<Thing> found = plan(t, l(law), day, bare);
        return found == null || k < 0 || k >= found.size() ? -1 : found.get(k).point();
    }

    int blame(int town, int law, int day) {
        Town t = t(town);
        if (t == null || l(law) == null || !day(day) || plan(t, l(law), day, true) != null) {
            return -1;
        }
        for (int r = 0; r < l(law).rules.size(); r++) {
            Law less = new Law();
            less.rules.addAll(l(law).rules);
            less.rules.remove(r);
            if (plan(t, less, day, true) != null) {
                return r;
            }
        }
        return -1;
    }

    /** The numbers in a set, as a row. */
    static int[] row(int set) {
        int[] r = new int[Integer.bitCount(set)];
        int n = 0;
        for (int i = 0; i < 31; i++) {
            if ((set >> i & 1) != 0) {
                r[n++] = i;
            }
        }
        return r;
    }

    int fewest(int town, int law, int day, boolean cheap) {
        Town t = t(town);
        if (t == null || l(law) == null || !day(day)) {
            return -1;
        }
        int best = -1;
        int[] bestKey = null;
        for (int set = 0; set < 1 << t.things.size(); set++) {
            List<Thing> left = new ArrayList<>();
            int cost = 0;
            for (Thing h : t.things) {
                if ((set >> h.number & 1) == 0) {
                    left.add(h);
                } else {
                    cost += h.cost;
                }
            }
            int[] key = {cheap ? cost : 0, Integer.bitCount(set)};
            int cmp = bestKey == null ? -1 : Arrays.compare(key, bestKey);
            if ((cmp < 0 || cmp == 0 && Arrays.compare(row(set), row(best)) < 0) && bars(t, left, l(law), day).isEmpty()) {
                best = set;
                bestKey = key;
            }
        }
        return best;
    }

    int fenced(int town, int law, int day) {
        Town t = t(town);
        if (t == null || l(law) == null || !day(day)) {
            return -1;
        }
        int best = -1;
        for (int set = 0; set < 1 << t.fences.size(); set++) {
            Town with = t.copy();
            for (int i : row(set)) {
                int[] f = t.fences.get(i);
                with.walls.add(new int[] {f[0], f[1], f[2], f[3], 0});
            }
            if (!bars(with, with.things, l(law), day).isEmpty()) {
                continue;
            }
            int cmp = best < 0 ? -1 : Integer.bitCount(set) - Integer.bitCount(best);
            if (cmp < 0 || cmp == 0 && Arrays.compare(row(set), row(best)) < 0) {
                best = set;
            }
        }
        return best;
    }

    int smells(int town, int a, int b) {
        Town t = t(town);
        if (!has(t, a) || !has(t, b) || a == b) {
            return -1;
        }
        int n = 0;
        for (int w : t.wind) {
            n += downwind(w, t.things.get(a), t.things.get(b)) ? 1 : 0;
        }
        return n;
    }

    int beside(int town, int a, int b, int day) {
        Town t = t(town);
        if (t == null || l(a) == null || l(b) == null || !day(day)) {
            return -1;
        }
        int n = 0;
        for (Thing g : t.things) {
            for (Thing h : t.things) {
                if (g.number < h.number) {
                    List<Thing> two = List.of(g, h);
                    n += bars(t, two, l(a), day).isEmpty() != bars(t, two, l(b), day).isEmpty() ? 1 : 0;
                }
            }
        }
        return n;
    }

    List<Thing> movers;

    int moved(int town, int law, int day) {
        Town t = t(town);
        Law l = l(law);
        movers = new ArrayList<>();
        if (t == null || l == null || !day(day)) {
            return -1;
        }
        List<Thing> all = standing(t, day);
        if (bars(t, all, l, day).isEmpty()) {
            return 0;
        }
        for (int many = 1; many <= 2; many++) {
            for (Thing g : all) {
                for (Thing h : all) {
                    if (many == 1 ? g != h : g.number >= h.number) {
                        continue;
                    }
                    List<Thing> stay = new ArrayList<>(all);
                    stay.remove(g);
                    stay.remove(h);
                    movers = new ArrayList<>();
                    for (Thing m : many == 1 ? List.of(g) : List.of(g, h)) {
                        Thing c = m.copy();
                        c.since = day;
                        movers.add(c);
                    }
                    if (bars(t, stay, l, day).isEmpty() && seat(t, l, day, stay, movers, 0)) {
                        return 1 << g.number | 1 << h.number;
                    }
                }
            }
        }
        movers = new ArrayList<>();
        return -1;
    }

    int movedTo(int town, int law, int day, int k) {
        moved(town, law, day);
        return k < 0 || k >= movers.size() ? -1 : movers.get(k).point();
    }

    int quiet(int town, int law, int day) {
        if (bars(town, law, day) == null) {
            return -1;
        }
        int set = 0;
        for (int h = 0; h < 8; h++) {
            Town one = t(town).copy();
            Arrays.fill(one.wind, -1);
            one.wind[h] = t(town).wind[h];
            boolean some = false;
            for (int[] b : bars(one, one.things, l(law), day)) {
                some |= l(law).rules.get(b[2])[0] == 1;
            }
            set |= some ? 0 : 1 << h;
        }
        return set;
    }

    int room(int town, int law, int day) {
        if (bars(town, law, day) == null) {
            return -1;
        }
        for (int n = 12; n >= 0; n--) {
            Law more = new Law();
            for (int[] r : l(law).rules) {
                more.rules.add(new int[] {r[0], r[1], r[2], r[3] + n, r[4]});
            }
            if (bars(t(town), t(town).things, more, day).isEmpty()) {
                return n;
            }
        }
        return -1;
    }

    int by(int town, int law, int day, int rule) {
        List<int[]> all = bars(town, law, day);
        if (all == null || !in(rule, 0, l(law).rules.size() - 1)) {
            return -1;
        }
        int n = 0;
        for (int[] b : all) {
            n += b[2] == rule ? 1 : 0;
        }
        return n;
    }

    int days(int town, int law, boolean first) {
        if (bars(town, law, 0) == null) {
            return -1;
        }
        int n = 0;
        for (int d = 0; d <= 999; d++) {
            if (!bars(town, law, d).isEmpty()) {
                if (first) {
                    return d;
                }
                n++;
            }
        }
        return first ? -1 : n;
    }

    int feud(int town, int law, int day, int house, int other) {
        List<int[]> all = bars(town, law, day);
        if (all == null || !in(house, 0, 7) || !in(other, 0, 7)) {
            return -1;
        }
        int n = 0;
        for (int[] b : all) {
            int p = t(town).things.get(b[0]).house, q = t(town).things.get(b[1]).house;
            n += Math.min(p, q) == Math.min(house, other) && Math.max(p, q) == Math.max(house, other) ? 1 : 0;
        }
        return n;
    }
}
