import java.util.Random;

/** Runs of calls, by a fixed row of numbers, on the class and on PlainTown at once: all answers must be the same. */
public final class AgainstPlainTest {
    private final Random dice;
    private final Checks c;
    private final FarTown f = new FarTown();
    private final PlainTown p = new PlainTown();
    private final int run;
    private int w, h, things;

    AgainstPlainTest(int run, Checks c) {
        this.run = run;
        this.dice = new Random(run);
        this.c = c;
    }

    public static void main(String[] args) {
        Checks c = new Checks();
        int runs = args.length > 0 ? Integer.parseInt(args[0]) : 150;
        int from = args.length > 1 ? Integer.parseInt(args[1]) : 0;
        for (int run = from; run < from + runs && c.wrong() < 50; run++) {
            new AgainstPlainTest(run, c).play();
        }
        c.finish();
    }

    private int n(int below) {
        return dice.nextInt(below);
    }

    private boolean often(int percent) {
        return n(100) < percent;
    }

    private void play() {
        for (int round = 0; round < 6; round++) {
            tell(often(8) ? badly(townText()) : townText(), true);
            tell(often(8) ? badly(lawText()) : lawText(), false);
            alter();
            for (int i = 0; i < 12; i++) {
                ask();
            }
            if (often(20)) {
                int v = dice.nextInt();
                due("feed", f.feed(v, 0, -1, 7, 0x20202020), p.feed(v, 0, -1, 7, 0x20202020));
            }
            if (often(30)) {
                int k = n(5) - 1;
                due("image " + k, f.image(k), p.image(k));
            }
            if (often(30)) {
                int k = n(5) - 1;
                due("again " + k, f.again(k), p.again(k));
            }
        }
    }

    private void due(String call, long got, long want) {
        c.due("run " + run + ": " + call, got, want);
    }

    private void due(String call, boolean got, boolean want) {
        c.due("run " + run + ": " + call, got, want);
    }

    private int dayNear() {
        return often(70) ? n(30) : often(95) ? n(1000) : n(3) * 1000 - 1;
    }

    private int day() {
        return often(90) ? n(25) : n(1000);
    }

    private int kind() {
        return often(60) ? n(2) : often(70) ? n(3) : n(6);
    }

    private String townText() {
        StringBuilder s = new StringBuilder();
        w = often(80) ? 1 + n(4) : 1 + n(8);
        h = often(80) ? 1 + n(4) : 1 + n(8);
        s.append("size ").append(w).append(' ').append(h).append(';');
        int lines = often(90) ? n(28) : n(48);
        things = 0;
        boolean[] taken = new boolean[64];
        boolean crowded = often(10);
        int sort = n(16);
        for (int i = 0; i < lines && s.length() < 440; i++) {
            line(s, taken, crowded ? sort : n(16));
        }
        return s.toString();
    }

    private void line(StringBuilder s, boolean[] taken, int sort) {
        int x = n(w), y = n(h);
        switch (sort) {
            case 0: case 1: case 2: case 3: case 4: case 5:
                if (!taken[8 * y + x] && things < 12 || often(2)) {
                    taken[8 * y + x] = true;
                    things++;
                    row(s, "thing", kind(), x, y, often(80) ? n(3) : n(8), day());
                    if (often(65)) {
                        row(s, " faces", n(4));
                    }
                    s.append(';');
                }
                break;
            case 6: case 7:
                row(s, "wall", x, y, n(w), n(h), day());
                s.append(';');
                fix(s, x, y);
                break;
            case 8: case 9:
                row(s, "fence", x, y, n(w), n(h));
                s.append(';');
                fix(s, x, y);
                break;
            case 10:
                row(s, "wind", n(8), n(8));
                s.append(';');
                break;
            case 11:
                s.append(often(50) ? "slope up " : "slope down ").append(n(10)).append(often(50) ? " up " : "\ndown").append(n(10)).append(';');
                break;
            case 12:
                row(s, "leave", n(3), n(3), day());
                s.append(';');
                break;
            case 13:
                if (things > 1) {
                    int a = n(things);
                    row(s, "object", a, (a + 1 + n(things - 1)) % things, day());
                    s.append(';');
                }
                break;
            case 14:
                if (things > 0) {
                    row(s, "cost", n(things), often(70) ? n(4) : n(100));
                    s.append(';');
                }
                break;
            default:
                row(s, "grow", kind(), 1 + (often(70) ? n(9) : n(99)));
                s.append(';');
        }
    }

    /** Most often no line from a point to itself. */
    private void fix(StringBuilder s, int x, int y) {
        int from = s.lastIndexOf(";", s.length() - 2) + 1;
        String[] t = s.substring(from).split("[ ;]");
        if (often(98) && t[1].equals(t[3]) && t[2].equals(t[4])) {
            s.setLength(from);
        }
    }

    private static void row(StringBuilder s, String word, int... numbers) {
        s.append(word);
        for (int v : numbers) {
            s.append(' ').append(v);
        }
    }

    private String lawText() {
        StringBuilder s = new StringBuilder();
        int rules = often(95) ? n(8) : n(13);
        for (int i = 0; i < rules; i++) {
            int d = often(80) ? 1 + n(4) : 1 + n(12);
            row(s, new String[] {"far", "wind", "flow", "face"}[n(4)], kind(), kind(), d);
            s.append(often(40) ? " wall;" : ";");
        }
        String[] more = {"later;", "harm;", "leave;", "silent 3;", "silent 1;", "silent 12 ;\n", ""};
        for (int i = n(4); i > 0; i--) {
            s.append(more[n(more.length)]);
        }
        return s.toString();
    }

    private String badly(String text) {
        StringBuilder s = new StringBuilder(text);
        String signs = "0123456789 ;\nazsl!A12345";
        for (int i = 1 + n(2); i > 0 && s.length() > 0; i--) {
            int at = n(s.length());
            switch (n(4)) {
                case 0: s.setCharAt(at, signs.charAt(n(signs.length()))); break;
                case 1: s.insert(at, signs.charAt(n(signs.length()))); break;
                case 2: s.deleteCharAt(at); break;
                default: s.setLength(at); break;
            }
        }
        return s.toString();
    }

    private void tell(String text, boolean town) {
        if (often(97)) {
            due("end 0", f.end(0), p.end(0));
        }
        int has = p.now.tape.length();
        for (int i = 0; i < text.length(); i += 20) {
            int[] v = new int[5];
            for (int j = 0; j < 20; j++) {
                v[j / 4] = v[j / 4] << 8 | (i + j < text.length() ? text.charAt(i + j) : ' ');
            }
            due("feed", f.feed(v[0], v[1], v[2], v[3], v[4]), p.feed(v[0], v[1], v[2], v[3], v[4]));
        }
        due("end", f.end(has + text.length()), p.end(has + text.length()));
        int at = often(50) ? -1 : n(5) - 2;
        if (town) {
            due("town of " + text, f.town(at), p.town(at));
        } else {
            due("law of " + text, f.law(at), p.law(at));
        }
        due("end 1 behind " + text, f.end(1), p.end(1));
        for (int i = -1; i < 3; i++) {
            due("fault " + i + " of " + text, f.fault(i), p.fault(i));
            due("count " + i, f.count(i), p.count(i));
        }
        for (int i = 0; i < 3; i++) {
            for (int what = -1; what < 62; what++) {
                due("about " + what, f.about(i, what), p.about(i, what));
                due("ruled " + what, f.ruled(i, what), p.ruled(i, what));
            }
            for (int t = -1; t < 13; t++) {
                for (int what = -1; what < 9; what++) {
                    due("thing " + what, f.thing(i, t, what), p.thing(i, t, what));
                }
            }
        }
    }

    private void alter() {
        for (int i = n(8); i > 0; i--) {
            int t = n(3), k = kind(), x = n(5), y = n(5), o = n(3), s = day(), fc = n(6) - 1;
            due("add", f.add(t, k, x, y, o, s, fc), p.add(t, k, x, y, o, s, fc));
            if (often(30)) {
                int th = n(8), d = dayNear();
                due("gone", f.gone(t, th, d), p.gone(t, th, d));
            }
            if (often(20)) {
                due("forget", f.forget(t), p.forget(t));
            }
            if (often(50)) {
                due("wish", f.wish(t, k, fc), p.wish(t, k, fc));
            }
        }
    }

    private void ask() {
        int t = often(95) ? n(Math.max(1, p.now.towns.size())) : n(5) - 1;
        int l = often(95) ? n(Math.max(1, p.now.laws.size())) : n(5) - 1;
        int l2 = often(95) ? n(Math.max(1, p.now.laws.size())) : n(5) - 1;
        int d = dayNear();
        String s = "(" + t + ", " + l + ", " + d + ")";
        pairs(t, l, d);
        java.util.List<int[]> all = p.bars(t, l, d);
        due("bars" + s, f.bars(t, l, d), all == null ? -1 : all.size());
        for (int k = -1; k < (all == null ? 2 : all.size() + 1); k++) {
            for (int what = -1; what < 6; what++) {
                due("bar" + s + k + " " + what, f.bar(t, l, d, k, what), p.bar(t, l, d, k, what));
            }
        }
        due("goes" + s, f.goes(t, l, d), p.goes(t, l, d));
        for (int i = -1; i < 9; i++) {
            due("pays" + s, f.pays(t, l, d, i), p.pays(t, l, d, i));
            due("by" + s, f.by(t, l, d, i), p.by(t, l, d, i));
            int other = n(4);
            due("feud" + s, f.feud(t, l, d, i, other), p.feud(t, l, d, i, other));
        }
        ground(t, l, d);
        plans(t, l, d);
        due("fewest" + s, f.fewest(t, l, d, false), p.fewest(t, l, d, false));
        due("fewest cheap" + s, f.fewest(t, l, d, true), p.fewest(t, l, d, true));
        due("fenced" + s, f.fenced(t, l, d), p.fenced(t, l, d));
        due("beside" + s, f.beside(t, l, l2, d), p.beside(t, l, l2, d));
        due("quiet" + s, f.quiet(t, l, d), p.quiet(t, l, d));
        due("room" + s, f.room(t, l, d), p.room(t, l, d));
        if (often(10)) {
            due("days" + s, f.days(t, l, false), p.days(t, l, false));
            due("days first" + s, f.days(t, l, true), p.days(t, l, true));
        }
    }

    private void pairs(int t, int l, int d) {
        for (int i = 0; i < 4; i++) {
            int a = n(8) - 1, b = n(8) - 1;
            due("apart", f.apart(t, a, b), p.apart(t, a, b));
            due("between", f.between(t, a, b, d), p.between(t, a, b, d));
            due("grown", f.grown(t, a, d), p.grown(t, a, d));
            due("smells", f.smells(t, a, b), p.smells(t, a, b));
        }
        if (often(20)) {
            int a = n(5), b = n(5);
            due("first", f.first(t, l, a, b), p.first(t, l, a, b));
        }
    }

    private void ground(int t, int l, int d) {
        int k = often(95) ? kind() : n(9) - 1, fc = n(6) - 1;
        due("spots", f.spots(t, l, d, k, fc), p.spots(t, l, d, k, fc));
        for (int i = 0; i < 4; i++) {
            int x = n(6) - 1, y = n(6) - 1;
            due("may", f.may(t, l, d, k, x, y, fc), p.may(t, l, d, k, x, y, fc));
            due("spot", f.spot(t, l, d, k, fc, x), p.spot(t, l, d, k, fc, x));
        }
    }

    private void plans(int t, int l, int d) {
        for (int k = -1; k < 4; k++) {
            due("plan", f.plan(t, l, d, false, k), p.plan(t, l, d, false, k));
            due("plan bare", f.plan(t, l, d, true, k), p.plan(t, l, d, true, k));
            due("movedTo", f.movedTo(t, l, d, k), p.movedTo(t, l, d, k));
        }
        due("blame", f.blame(t, l, d), p.blame(t, l, d));
        due("moved", f.moved(t, l, d), p.moved(t, l, d));
    }
}
