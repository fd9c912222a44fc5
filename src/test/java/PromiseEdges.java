import java.util.function.Supplier;

/** Promises 1 to 40: each call at the ends of what there is, and one beyond. */
final class PromiseEdges extends Edges {
    private static final String TOWN = "size 4 3;thing 0 0 0 0 0;thing 0 1 0 7 0;thing 0 3 2 1 5;fence 0 1 3 0;fence 0 0 0 1;wind 0 0;";
    private static final String LAW = "far 0 0 2 wall;far 1 1 2;silent 9;";
    // Two things, so that of two numbers one can be at each end while they are two.
    private static final String PAIR = "size 4 1;thing 0 0 0 0 0;thing 0 1 0 7 0;";

    PromiseEdges(Sentences s) {
        super(s);
    }

    @Override
    void play() {
        tape();
        taking();
        fault();
        about();
        thingAndRuled();
        add();
        gone();
        pairs();
        barCalls();
        groundCalls();
        wishes();
        planCalls();
        helpCalls();
        otherCalls();
        images();
    }

    private FarTown ready() {
        return twice(TOWN, LAW);
    }

    /** Towns 0 and 1, laws 0 and 1, days 0 to 999, as the first numbers of a call: one beyond is refused. */
    private void townLawDay(Supplier<FarTown> fresh, String call, int refused, int... with) {
        argument(fresh, call, refused, 0, 0, 1, with);
        argument(fresh, call, refused, 1, 0, 1, with);
        argument(fresh, call, refused, 2, 0, 999, with);
    }

    private void tape() {
        s.of("Promise 1", "No TOWNS, LAWS; no images.", () -> {
            FarTown f = new FarTown();
            s.due("towns", f.count(0), 0);
            s.due("laws", f.count(1), 0);
            for (int k = -1; k < 4; k++) {
                s.due("again " + k, f.again(k), false);
            }
            s.due("the tape is empty", f.end(1), NO);
            s.due("no fault", f.fault(0), 0);
            s.due("no place", f.fault(1), NO);
            s.due("no town 0", f.about(0, 0), ODD);
            s.due("no law 0", f.ruled(0, 0), NO);
            s.due("no bars", f.bars(0, 0, 0), NO);
            s.due("nothing of another object", told("size 1 1;").count(1), 0);
        });
        s.of("Promise 2", "twenty bytes come behind it, of each number the highest first: how many it has.", () -> {
            FarTown f = new FarTown();
            s.due("feed", f.feed(0x73697a65, 0x20332037, 0x3b77696e, 0x64203720, 0x363b2020), 20);
            s.due("town", f.town(NO), 0);
            s.due("width", f.about(0, 0), 3);
            s.due("height", f.about(0, 1), 7);
            s.due("wind", f.about(0, 27), 6);
            s.due("bytes above 127", f.feed(-1, Integer.MIN_VALUE, Integer.MAX_VALUE, 0, 0), 20);
            s.due("they are bytes", f.law(NO), NO);
            s.due("the first is none", f.fault(1), 0);
        });
        s.of("Promise 2", "NONE, and nothing comes, if there would be more than 500.", () -> {
            FarTown f = new FarTown();
            Checks.tell(f, 0, times(480, " "));
            s.due("to 500", f.feed(0x20202020, 0x20202020, 0x20202020, 0x20202020, 0x20202020), 500);
            s.due("beyond", f.feed(0, 0, 0, 0, 0), NO);
            s.due("as many as before", f.end(500), 500);
            s.due("and no more", f.end(501), NO);
            s.due("all blank as before", f.law(NO), 0);
            Checks.tell(f, 0, times(481, " "));
            s.due("to 501", f.feed(0, 0, 0, 0, 0), NO);
            s.due("not a byte came", f.end(482), NO);
            s.due("all blank, too", f.law(NO), 1);
        });
        s.of("Promise 3", "The tape has its first n bytes alone: n.", () -> {
            FarTown f = new FarTown();
            Checks.tell(f, 0, "harm;!!");
            s.due("end 5", f.end(5), 5);
            s.due("no more", f.end(6), NO);
            s.due("all of it", f.end(5), 5);
            s.due("the first bytes", f.law(NO), 0);
            s.due("they are", f.ruled(0, 1), 1);
            Checks.tell(f, 0, "harm;");
            s.due("end 0", f.end(0), 0);
            Checks.tell(f, 0, "later;");
            s.due("what comes then is behind it", f.law(NO), 1);
            s.due("the new bytes", f.ruled(1, 1), 0);
        });
        s.of("Promise 3", "NONE if it has not so many, or n is below 0.", () -> {
            FarTown f = new FarTown();
            s.due("1 of none", f.end(1), NO);
            s.due("0 of none", f.end(0), 0);
            s.due("feed", f.feed(1, 2, 3, 4, 5), 20);
            for (int n : new int[] {21, 500, Integer.MAX_VALUE, -1, Integer.MIN_VALUE}) {
                s.due("end " + n, f.end(n), NO);
            }
            s.due("none came or went", f.end(20), 20);
        });
    }

    /** town and law are alike: both by one test. */
    private void both(String town, String law, Both test) {
        s.of("Promise 4", town, () -> test.with(true));
        s.of("Promise 5", law, () -> test.with(false));
    }

    private interface Both {
        void with(boolean town);
    }

    private static int take(FarTown f, boolean town, int at, String text) {
        Checks.tell(f, 0, text);
        return town ? f.town(at) : f.law(at);
    }

    private static String sound(boolean town, int n) {
        return town ? "size " + n + " 1;" : "silent " + n + ";";
    }

    private static int size(FarTown f, boolean town, int at) {
        return town ? f.about(at, 0) : f.ruled(at, 3);
    }

    private void taking() {
        String same = "The same as a LAW.";
        both("The tape is taken (and is empty then), as a TOWN, a further one (at NONE)", same, town -> {
            FarTown f = new FarTown();
            for (int i = 0; i < 3; i++) {
                s.due("a further one", take(f, town, NO, sound(town, i + 4)), i);
                s.due("empty then", f.end(1), NO);
                s.due("what it is", size(f, town, i), i + 4);
                s.due("how many", f.count(town ? 0 : 1), i + 1);
                s.due("none of the other", f.count(town ? 1 : 0), 0);
            }
        });
        both("or in the place of one (its WISHES are gone then): its number.", same, town -> {
            for (int at = 0; at < 2; at++) {
                FarTown f = twice("size 1 1;", "silent 1;");
                s.due("wish", f.wish(0, 1, NO), 1);
                s.due("wish", f.wish(1, 1, NO), 1);
                s.due("in the place of " + at, take(f, town, at, sound(town, 8)), at);
                s.due("what it is", size(f, town, at), 8);
                s.due("the other one stays", size(f, town, 1 - at), 1);
                s.due("as many as before", f.count(town ? 0 : 1), 2);
                s.due("its wishes", f.about(at, 9), town ? 0 : 1);
                s.due("the other one's wishes", f.about(1 - at, 9), 1);
                s.due("empty then", f.end(1), NO);
            }
        });
        both("NONE: a FAULT.", same, town -> {
            FarTown f = twice(TOWN, LAW);
            s.due("wish", f.wish(1, 1, NO), 1);
            s.due("gone", f.gone(1, 0, 9), true);
            String[] bad = {"!", town ? "size 9 9;" : "silent 0;", "far 0 0 1;size 1 1;"};
            for (String text : bad) {
                for (int at = -1; at < 2; at++) {
                    s.due(text + " at " + at, take(f, town, at, text), NO);
                    s.due("empty then", f.end(1), NO);
                }
            }
            s.due("towns", f.count(0), 2);
            s.due("laws", f.count(1), 2);
            s.due("things", f.about(1, 2), 3);
            s.due("rules", f.ruled(1, 0), 2);
            s.due("wishes", f.about(1, 9), 1);
            s.due("gone from", f.thing(1, 0, 7), 9);
        });
        both("-2: there is none such, or there are 3 (no text is read then, FAULT 0).", same, town -> {
            for (int many = 0; many <= 3; many++) {
                for (int at : new int[] {Integer.MIN_VALUE, -2, NO, many, 3, Integer.MAX_VALUE}) {
                    refused(town, many, at);
                }
            }
        });
    }

    private void refused(boolean town, int many, int at) {
        if (at == NO && many < 3) {
            return;
        }
        FarTown f = new FarTown();
        for (int i = 0; i < many; i++) {
            s.due("one of " + many, take(f, town, NO, sound(town, 5)), i);
        }
        s.due("a fault of the other sort", take(f, !town, NO, "!"), NO);
        s.due("fault 1", f.fault(0), 1);
        s.due("refused at " + at + " of " + many, take(f, town, at, sound(town, 6)), -2);
        s.due("fault 0", f.fault(0), 0);
        s.due("no place", f.fault(1), NO);
        s.due("the tape is taken", f.end(1), NO);
        s.due("refused with a bad text", take(f, town, at, "!"), -2);
        s.due("fault 0, since it is not read", f.fault(0), 0);
        s.due("as many as before", f.count(town ? 0 : 1), many);
        for (int i = 0; i < many; i++) {
            s.due("none is another", size(f, town, i), 5);
        }
    }

    private void fault() {
        s.of("Promise 6", "Of the latest town() or law(), what 0: the FAULT, 0 without, 1: its place, NONE without.", () -> {
            FarTown f = new FarTown();
            s.due("a fault", Checks.town(f, "size 9 1;"), NO);
            s.due("2", f.fault(0), 2);
            s.due("its place", f.fault(1), 5);
            s.due("asked again", f.fault(0), 2);
            s.due("another fault", Checks.law(f, "?"), NO);
            s.due("1", f.fault(0), 1);
            s.due("its place, 0", f.fault(1), 0);
            f.feed(0, 0, 0, 0, 0);
            f.end(0);
            s.due("feed and end leave it", f.fault(0), 1);
            s.due("a sound one", Checks.law(f, ""), 0);
            s.due("without", f.fault(0), 0);
            s.due("no place", f.fault(1), NO);
            s.due("a fault", Checks.law(f, "later"), NO);
            s.due("a sound town", Checks.town(f, "size 1 1;"), 0);
            s.due("without, by a town", f.fault(0), 0);
        });
        s.of("Promise 6", "NONE for another what.", () -> {
            FarTown f = new FarTown();
            Checks.town(f, "size 9 1;");
            for (int what : new int[] {-1, 2, 3, Integer.MIN_VALUE, Integer.MAX_VALUE}) {
                s.due("what " + what, f.fault(what), NO);
            }
        });
    }

    private void about() {
        s.of("Promise 7", "Of a TOWN, what 0: WIDTH, 1: HEIGHT, 2: THINGS, 3: WALLS, 4: FENCES, 5: a, 6: b of the SLOPE, 7: leaves, 8: objections, 9: WISHES,", () -> {
            FarTown f = told("size 8 7;thing 0 0 0 0 0;thing 0 1 0 0 0;" + times(3, "wall 0 0 1 1 0;") + times(4, "fence 0 0 1 1;") + "slope down 5 up 6;"
                + times(7, "leave 0 0 0;") + times(8, "object 0 1 0;"));
            int[] want = {8, 7, 2, 3, 4, -5, 6, 7, 8, 0};
            for (int what = 0; what < want.length; what++) {
                s.due("what " + what, f.about(0, what), want[what]);
            }
            int[] bare = {1, 1, 0, 0, 0, 0, 0, 0, 0, 0};
            FarTown g = told("size 1 1;");
            for (int what = 0; what < bare.length; what++) {
                s.due("of a bare town, " + what, g.about(0, what), bare[what]);
            }
            f.wish(0, 0, NO);
            f.add(0, 0, 2, 0, 0, 0, NO);
            s.due("a wish", f.about(0, 9), 1);
            s.due("a thing more", f.about(0, 2), 3);
        });
        s.of("Promise 7", "20 + h: toward where the WIND blows in HOUR h (NONE: not), 30 + k: DAYS by which a KIND GROWS (NONE: not).", () -> {
            FarTown f = told("size 1 1;wind 0 3;wind 7 0;grow 0 99;grow 5 1;");
            for (int h = 0; h < 8; h++) {
                s.due("hour " + h, f.about(0, 20 + h), h == 0 ? 3 : h == 7 ? 0 : NO);
            }
            for (int k = 0; k < 6; k++) {
                s.due("kind " + k, f.about(0, 30 + k), k == 0 ? 99 : k == 5 ? 1 : NO);
            }
        });
        s.of("Promise 7", "-10000: there is none such, or for another what.", () -> {
            argument(this::ready, "about", ODD, 0, 0, 1, 0, 0);
            FarTown f = ready();
            for (int what : new int[] {Integer.MIN_VALUE, -10000, -1, 10, 11, 19, 28, 29, 36, 37, 40, 50, Integer.MAX_VALUE}) {
                s.due("what " + what, f.about(0, what), ODD);
            }
        });
    }

    private void thingAndRuled() {
        s.of("Promise 8", "Of a THING, what 0: KIND, 1: x, 2: y, 3: HOUSE, 4: SINCE, 5: FACES (NONE: not), 6: COST, 7: from when on it is GONE (NONE: not).", () -> {
            FarTown f = told("size 8 8;thing 5 7 6 4 999 faces 3;thing 0 0 0 0 0;cost 0 98;");
            int[][] want = {{5, 7, 6, 4, 999, 3, 98, NO}, {0, 0, 0, 0, 0, NO, 1, NO}};
            for (int what = 0; what < 8; what++) {
                s.due("thing 0, " + what, f.thing(0, 0, what), want[0][what]);
                s.due("thing 1, " + what, f.thing(0, 1, what), want[1][what]);
            }
            s.due("gone", f.gone(0, 1, 1), true);
            s.due("from when on", f.thing(0, 1, 7), 1);
        });
        s.of("Promise 8", "-10000: there is none such, or for another what.", () -> {
            argument(this::ready, "thing", ODD, 0, 0, 1, 0, 0, 0);
            argument(this::ready, "thing", ODD, 1, 0, 2, 1, 0, 0);
            argument(this::ready, "thing", ODD, 2, 0, 7, 1, 2, 0);
        });
        s.of("Promise 9", "Of a LAW, what 0: RULES, 1: 1 if by harm, 2: 1 if it has leave, 3: DAYS of silence (NONE: none),", () -> {
            FarTown f = told("size 1 1;", "", "harm;leave;silent 98;" + times(10, "far 0 0 1;"));
            int[] bare = {0, 0, 0, NO};
            int[] full = {10, 1, 1, 98};
            for (int what = 0; what < 4; what++) {
                s.due("of none, " + what, f.ruled(0, what), bare[what]);
                s.due("of all, " + what, f.ruled(1, what), full[what]);
            }
        });
        s.of("Promise 9", "10 + r: sort of RULE r (0 far, 1 wind, 2 flow, 3 face), 20 + r: first KIND, 30 + r: second KIND, 40 + r: how far, 50 + r: 1 with wall.", () -> {
            FarTown f = told("size 1 1;", "far 1 2 3;wind 4 5 6 wall;flow 0 1 12;face 2 3 11 wall;" + times(5, "far 0 0 1;") + "face 5 4 10 wall;");
            int[][] want = {{0, 1, 2, 3, 0}, {1, 4, 5, 6, 1}, {2, 0, 1, 12, 0}, {3, 2, 3, 11, 1}};
            for (int r = 0; r < want.length; r++) {
                for (int i = 0; i < 5; i++) {
                    s.due("rule " + r + ", " + i, f.ruled(0, 10 + 10 * i + r), want[r][i]);
                }
            }
            int[] last = {3, 5, 4, 10, 1};
            for (int i = 0; i < 5; i++) {
                s.due("rule 9, " + i, f.ruled(0, 19 + 10 * i), last[i]);
            }
        });
        s.of("Promise 9", "NONE: there is none such, or for another what.", () -> {
            argument(this::ready, "ruled", NO, 0, 0, 1, 0, 0);
            FarTown f = ready();
            for (int what : new int[] {Integer.MIN_VALUE, -1, 4, 5, 9, 12, 19, 22, 29, 32, 39, 42, 49, 52, 59, 60, 61, 70, Integer.MAX_VALUE}) {
                s.due("what " + what, f.ruled(0, what), NO);
            }
        });
    }

    private void add() {
        s.of("Promise 10", "A THING more in a TOWN: its number.", () -> {
            FarTown f = twice("size 8 8;", "far 0 0 2;");
            for (int i = 0; i < 12; i++) {
                s.due("add " + i, f.add(1, 0, i % 8, i / 8, 0, 0, NO), i);
            }
            s.due("none in the other", f.about(0, 2), 0);
            s.due("it stands", f.bars(1, 0, 0) > 0, true);
        });
        s.of("Promise 10", "NONE: there are 12, one stands there already (as in 1.), or other numbers (faces NONE: not).", () -> {
            int[] free = {0, 0, 2, 2, 0, 0, 0};
            int[] most = {1, 5, 3, 2, 7, 999, 3};
            int[] least = {0, 0, 0, 0, 0, 0, -1};
            for (int i = 0; i < free.length; i++) {
                // 0, 2 and 2, 0 are free as 2, 2 is.
                argument(this::ready, "add", NO, i, least[i], i == 2 ? 2 : most[i], free);
            }
            s.due("x 3", ready().add(0, 0, 3, 1, 0, 0, NO), 3);
            s.due("x 4", ready().add(0, 0, 4, 1, 0, 0, NO), NO);
            FarTown f = ready();
            s.due("one is there from 5 on", f.add(0, 0, 3, 2, 0, 0, NO), NO);
            s.due("gone", f.gone(0, 0, 1), true);
            s.due("one has been there", f.add(0, 0, 0, 0, 0, 999, NO), NO);
            s.due("nothing came", f.about(0, 2), 3);
            int[][] points = {{2, 0}, {3, 0}, {0, 1}, {1, 1}, {2, 1}, {3, 1}, {0, 2}, {1, 2}, {2, 2}};
            for (int i = 0; i < points.length; i++) {
                s.due("add " + (3 + i), f.add(0, 0, points[i][0], points[i][1], 0, 0, NO), 3 + i);
            }
            FarTown g = told("size 8 8;");
            for (int i = 0; i < 12; i++) {
                s.due("add " + i, g.add(0, 0, i % 8, i / 8, 0, 0, NO), i);
            }
            s.due("a 13th", g.add(0, 0, 7, 7, 0, 0, NO), NO);
            s.due("twelve", g.about(0, 2), 12);
            s.due("the first as it was", g.thing(0, 0, 1), 0);
            s.due("the last as it was", g.thing(0, 11, 1), 3);
        });
    }

    private void gone() {
        s.of("Promise 11", "A THING is GONE from a DAY on, above its SINCE (told anew it is that): true;", () -> {
            FarTown f = ready();
            s.due("a day above", f.gone(0, 2, 6), true);
            s.due("from 6", f.thing(0, 2, 7), 6);
            s.due("anew, later", f.gone(0, 2, 999), true);
            s.due("from 999", f.thing(0, 2, 7), 999);
            s.due("anew, earlier", f.gone(0, 2, 7), true);
            s.due("from 7", f.thing(0, 2, 7), 7);
            s.due("on its day", f.gone(0, 2, 5), false);
            s.due("ahead of it", f.gone(0, 2, 4), false);
            s.due("still from 7", f.thing(0, 2, 7), 7);
            s.due("of the other town not", f.thing(1, 2, 7), NO);
        });
        s.of("Promise 11", "false: there is none such (of either).", () -> {
            argument(this::ready, "gone", 0, 0, 0, 1, 0, 0, 9);
            argument(this::ready, "gone", 0, 1, 0, 2, 0, 0, 9);
            argument(this::ready, "gone", 0, 2, 6, 999, 0, 2, 9);
            argument(this::ready, "gone", 0, 2, 1, 999, 0, 0, 9);
        });
    }

    private void pairs() {
        s.of("Promise 12", "By how many two THINGS' POINTS are apart, as a square.", () -> {
            FarTown f = told("size 8 8;thing 0 0 0 0 0;thing 0 7 7 0 999;thing 0 0 1 0 0;thing 0 4 4 0 0;");
            s.due("the farthest", f.apart(0, 0, 1), 98);
            s.due("the other way", f.apart(0, 1, 0), 98);
            s.due("the nearest", f.apart(0, 0, 2), 1);
            s.due("aslant", f.apart(0, 2, 3), 25);
            s.due("one from itself", f.apart(0, 3, 3), 0);
        });
        s.of("Promise 12", "NONE: there is none such (of any).", () -> {
            argument(this::ready, "apart", NO, 0, 0, 1, 0, 0, 1);
            argument(this::ready, "apart", NO, 1, 0, 2, 0, 0, 1);
            argument(this::ready, "apart", NO, 2, 0, 2, 0, 0, 1);
        });
        s.of("Promise 13", "How many WALLS that stand on a DAY are BETWEEN two THINGS.", () -> {
            FarTown f = told("size 3 3;thing 0 0 0 0 50;thing 0 2 0 0 50;wall 1 0 1 2 0;wall 1 0 1 1 3;wall 0 0 0 2 999;wall 1 1 2 1 0;fence 1 0 1 1;");
            int[][] want = {{0, 1}, {2, 1}, {3, 2}, {998, 2}, {999, 3}};
            for (int[] w : want) {
                s.due("on " + w[0], f.between(0, 0, 1, w[0]), w[1]);
            }
        });
        s.of("Promise 13", "NONE: there is none such (of any), or they are one.", () -> {
            argument(this::ready, "between", NO, 0, 0, 1, 0, 0, 1, 0);
            argument(this::ready, "between", NO, 1, 0, 0, 0, 0, 1, 0);
            argument(this::ready, "between", NO, 1, 2, 2, 0, 2, 1, 0);
            argument(this::ready, "between", NO, 2, 1, 2, 0, 0, 1, 0);
            argument(this::ready, "between", NO, 2, 0, 1, 0, 2, 1, 0);
            argument(this::ready, "between", NO, 3, 0, 999, 0, 0, 1, 0);
            s.due("one", ready().between(0, 1, 1, 0), NO);
        });
        s.of("Promise 14", "How much a THING has GROWN on a DAY (0 ahead of SINCE).", () -> {
            FarTown f = told("size 1 1;thing 0 0 0 0 500;grow 0 1;");
            int[][] want = {{0, 0}, {491, 0}, {499, 0}, {500, 0}, {501, 1}, {508, 8}, {509, 9}, {510, 9}, {999, 9}};
            for (int[] w : want) {
                s.due("on " + w[0], f.grown(0, 0, w[0]), w[1]);
            }
        });
        s.of("Promise 14", "NONE: there is none such (of any).", () -> {
            argument(this::ready, "grown", NO, 0, 0, 1, 0, 0, 0);
            argument(this::ready, "grown", NO, 1, 0, 2, 0, 0, 0);
            argument(this::ready, "grown", NO, 2, 0, 999, 0, 0, 0);
        });
        s.of("Promise 29", "SMELLS: HOURS in which THING b lies DOWNWIND of a.", () -> {
            FarTown f = told(PAIR + "wind 6 0;");
            s.due("1 of 0", f.smells(0, 0, 1), 1);
            s.due("0 of 1", f.smells(0, 1, 0), 0);
        });
        s.of("Promise 29", "NONE: they are one, or there is none such (of any).", () -> {
            argument(this::ready, "smells", NO, 0, 0, 1, 0, 0, 1);
            argument(this::ready, "smells", NO, 1, 0, 0, 0, 0, 1);
            argument(this::ready, "smells", NO, 1, 2, 2, 0, 2, 1);
            argument(this::ready, "smells", NO, 2, 1, 2, 0, 0, 1);
            argument(this::ready, "smells", NO, 2, 0, 1, 0, 2, 0);
            s.due("one", ready().smells(0, 0, 0), NO);
        });
    }

    private void barCalls() {
        s.of("Promise 15", "How many BARS.", () -> {
            s.due("none", told("size 1 1;", "").bars(0, 0, 0), 0);
            s.due("one", told(PAIR, "far 0 0 2;").bars(0, 0, 0), 1);
            FarTown f = told("size 4 3;wind 0 0;wind 1 2;wind 2 4;wind 3 6;", times(10, "wind 0 0 12;"));
            for (int i = 0; i < 12; i++) {
                f.add(0, 0, i % 4, i / 4, 0, 0, NO);
            }
            s.due("the most there can be", f.bars(0, 0, 0), 12 * 11 * 10);
            s.due("the last of them", f.bar(0, 0, 0, 1319, 2), 9);
        });
        s.of("Promise 15", "NONE: there is none such (of any).", () -> townLawDay(this::ready, "bars", NO, 0, 0, 0));
        s.of("Promise 16", "Of the k-th of BARS, from 0 on, what 0: the first one, 1: the second one, 2: the RULE, 3: SHORT, 4: who must GO (NONE: neither).", () -> {
            FarTown f = told(PAIR, "far 5 5 1;far 0 0 4;silent 2;far 0 0 2;");
            int[][] want = {{0, 1, 1, 3, 1}, {0, 1, 2, 1, 1}};
            for (int k = 0; k < 2; k++) {
                for (int what = 0; what < 5; what++) {
                    s.due("bar " + k + ", " + what, f.bar(0, 0, 1, k, what), want[k][what]);
                }
                s.due("neither", f.bar(0, 0, 2, k, 4), NO);
            }
        });
        s.of("Promise 16", "-10000: there is none such (of any), or for another what.", () -> {
            townLawDay(this::ready, "bar", ODD, 0, 0, 0, 0, 0);
            argument(this::ready, "bar", ODD, 3, 0, 0, 0, 0, 0, 0, 0);
            argument(() -> told(PAIR, times(10, "far 0 0 2;")), "bar", ODD, 3, 0, 9, 0, 0, 0, 0, 0);
            argument(this::ready, "bar", ODD, 4, 0, 4, 0, 0, 0, 0, 0);
            s.due("no bars at all", told(PAIR, "").bar(0, 0, 0, 0, 0), ODD);
        });
        s.of("Promise 17", "THINGS (bits) that must GO.", () -> {
            FarTown f = told("size 2 1;thing 0 0 0 0 5;thing 0 1 0 7 0;", "far 0 0 2;", "far 0 0 2;harm;");
            s.due("none", f.goes(0, 0, 4), 0);
            s.due("bit 0", f.goes(0, 0, 5), 1);
            s.due("bit 0 by harm", f.goes(0, 1, 5), 1);
            FarTown g = told("size 8 8;", "far 0 1 12;harm;", "far 0 1 12;");
            for (int i = 0; i < 12; i++) {
                g.add(0, i < 11 ? 0 : 1, i % 8, i / 8, 0, i, NO);
            }
            s.due("all but bit 11", g.goes(0, 0, 11), 2047);
            s.due("bit 11", g.goes(0, 1, 11), 2048);
        });
        s.of("Promise 17", "NONE: there is none such (of any).", () -> townLawDay(this::ready, "goes", NO, 0, 0, 0));
        s.of("Promise 18", "What a HOUSE PAYS.", () -> {
            FarTown f = told("size 8 8;", "far 0 1 12;harm;");
            for (int i = 0; i < 12; i++) {
                f.add(0, i < 11 ? 0 : 1, i % 8, i / 8, i % 8, i, NO);
            }
            s.due("house 3, of the last one", f.pays(0, 0, 11, 3), 11);
            s.due("house 0", f.pays(0, 0, 11, 0), 0);
            s.due("house 7", f.pays(0, 0, 11, 7), 0);
            FarTown g = told(PAIR + "cost 1 0;", "far 0 0 2;");
            s.due("one who costs nothing", g.pays(0, 0, 0, 7), 0);
        });
        s.of("Promise 18", "NONE: there is none such (of any).", () -> {
            townLawDay(this::ready, "pays", NO, 0, 0, 0, 0);
            argument(this::ready, "pays", NO, 3, 0, 7, 0, 0, 0, 0);
        });
        s.of("Promise 19", "FIRST.", () -> {
            s.due("on day 0", told(PAIR, "far 0 0 2;").first(0, 0, 0, 1), 0);
            s.due("told the other way", told(PAIR, "far 0 0 2;").first(0, 0, 1, 0), 0);
        });
        s.of("Promise 19", "NONE: on none, they are one, or there is none such (of any).", () -> {
            s.due("on none", told(PAIR, "far 0 0 1;").first(0, 0, 0, 1), NO);
            s.due("one", told(PAIR, "far 0 0 2;").first(0, 0, 0, 0), NO);
            Supplier<FarTown> pair = () -> twice(PAIR, "far 0 0 2;");
            argument(pair, "first", NO, 0, 0, 1, 0, 0, 0, 1);
            argument(pair, "first", NO, 1, 0, 1, 0, 0, 0, 1);
            argument(pair, "first", NO, 2, 0, 0, 0, 0, 0, 1);
            argument(pair, "first", NO, 2, 1, 1, 0, 0, 1, 0);
            argument(pair, "first", NO, 3, 1, 1, 0, 0, 0, 1);
            argument(pair, "first", NO, 3, 0, 0, 0, 0, 1, 0);
        });
    }

    private void groundCalls() {
        s.of("Promise 20", "Whether a KIND MAY stand at a POINT (faces NONE: not).", () -> {
            FarTown f = told("size 2 1;thing 0 0 0 0 0 faces 0;", "face 0 1 2;");
            s.due("not facing", f.may(0, 0, 0, 1, 1, 0, NO), true);
            s.due("facing", f.may(0, 0, 0, 1, 1, 0, 2), false);
            s.due("where it stands", f.may(0, 0, 0, 1, 0, 0, NO), false);
        });
        s.of("Promise 20", "False, too, if there is none such (of any).", () -> {
            townLawDay(() -> twice("size 4 3;", ""), "may", 0, 0, 0, 0, 0, 0, 0, -1);
            argument(() -> twice("size 4 3;", ""), "may", 0, 3, 0, 5, 0, 0, 0, 0, 0, 0, -1);
            argument(() -> twice("size 4 3;", ""), "may", 0, 4, 0, 3, 0, 0, 0, 0, 0, 0, -1);
            argument(() -> twice("size 4 3;", ""), "may", 0, 5, 0, 2, 0, 0, 0, 0, 0, 0, -1);
            argument(() -> twice("size 4 3;", ""), "may", 0, 6, -1, 3, 0, 0, 0, 0, 0, 0, -1);
            argument(() -> twice("size 8 8;", ""), "may", 0, 4, 0, 7, 0, 0, 0, 0, 0, 7, -1);
        });
        s.of("Promise 21", "How many SPOTS.", () -> {
            s.due("all", told("size 8 8;", "far 0 0 12;").spots(0, 0, 0, 0, NO), 64);
            s.due("none", told("size 8 8;thing 0 0 0 0 0;", "far 0 0 12;").spots(0, 0, 0, 0, NO), 0);
            s.due("of one", told("size 1 1;", "").spots(0, 0, 0, 0, NO), 1);
        });
        s.of("Promise 21", "NONE: there is none such (of any).", () -> {
            townLawDay(this::ready, "spots", NO, 0, 0, 0, 0, -1);
            argument(this::ready, "spots", NO, 3, 0, 5, 0, 0, 0, 0, -1);
            argument(this::ready, "spots", NO, 4, -1, 3, 0, 0, 0, 0, -1);
        });
        s.of("Promise 22", "The k-th of SPOTS, from 0 on, as 8 * y + x.", () -> {
            FarTown f = told("size 2 8;", "");
            for (int k = 0; k < 16; k++) {
                s.due("spot " + k, f.spot(0, 0, 0, 0, NO, k), 8 * (k / 2) + k % 2);
            }
        });
        s.of("Promise 22", "NONE: there is none such (of any).", () -> {
            townLawDay(this::ready, "spot", NO, 0, 0, 0, 5, -1, 0);
            argument(this::ready, "spot", NO, 3, 0, 5, 0, 0, 0, 0, -1, 0);
            argument(this::ready, "spot", NO, 4, -1, 3, 0, 0, 0, 0, -1, 0);
            argument(this::ready, "spot", NO, 5, 0, 9, 0, 0, 0, 5, -1, 0);
            argument(() -> told("size 8 8;", ""), "spot", NO, 5, 0, 63, 0, 0, 0, 5, -1, 0);
        });
    }

    private void wishes() {
        s.of("Promise 23", "A WISH: how many.", () -> {
            FarTown f = ready();
            for (int i = 1; i <= 3; i++) {
                s.due("wish " + i, f.wish(1, i, NO), i);
            }
            s.due("in the other", f.wish(0, 0, 0), 1);
        });
        s.of("Promise 23", "NONE: there are 3, or there is none such (of any; faces NONE: not).", () -> {
            argument(this::ready, "wish", NO, 0, 0, 1, 0, 0, 0);
            argument(this::ready, "wish", NO, 1, 0, 5, 0, 0, 0);
            argument(this::ready, "wish", NO, 2, -1, 3, 0, 0, 0);
            FarTown f = ready();
            f.wish(0, 0, NO);
            f.wish(0, 6, NO);
            f.wish(0, 0, 4);
            s.due("the refused ones are none", f.about(0, 9), 1);
            f.wish(0, 0, NO);
            f.wish(0, 0, NO);
            s.due("a fourth", f.wish(0, 0, NO), NO);
            s.due("still three", f.about(0, 9), 3);
        });
        s.of("Promise 24", "The WISHES of a TOWN are gone: whether there were some.", () -> {
            FarTown f = ready();
            s.due("none yet", f.forget(0), false);
            f.wish(0, 0, NO);
            f.wish(1, 0, NO);
            for (int town : new int[] {-1, 2, 3, Integer.MIN_VALUE, Integer.MAX_VALUE}) {
                s.due("town " + town, f.forget(town), false);
            }
            s.due("some", f.forget(0), true);
            s.due("gone", f.about(0, 9), 0);
            s.due("of the other not", f.about(1, 9), 1);
            s.due("none any more", f.forget(0), false);
            for (int i = 1; i <= 3; i++) {
                s.due("room for " + i, f.wish(0, 1, NO), i);
            }
        });
    }

    private FarTown wishing(int many, String town, String law) {
        FarTown f = twice(town, law);
        for (int i = 0; i < many; i++) {
            f.wish(0, 0, NO);
            f.wish(1, 0, NO);
        }
        return f;
    }

    private void planCalls() {
        s.of("Promise 25", "The POINT of the k-th WISH in PLAN, or (bare) in that on the BARE ground, as 8 * y + x.", () -> {
            FarTown f = wishing(3, "size 1 4;thing 1 0 0 0 0;", "");
            for (int k = 0; k < 3; k++) {
                s.due("plan " + k, f.plan(0, 0, 0, false, k), 8 * k + 8);
                s.due("bare " + k, f.plan(0, 0, 0, true, k), 8 * k);
            }
        });
        s.of("Promise 25", "NONE: there is no PLAN, or none such (of any).", () -> {
            for (int bare = 0; bare < 2; bare++) {
                Supplier<FarTown> fresh = () -> wishing(2, "size 4 3;thing 1 0 0 0 0;", "far 0 0 2;");
                townLawDay(fresh, "plan", NO, 0, 0, 0, bare, 0);
                argument(fresh, "plan", NO, 4, 0, 1, 0, 0, 0, bare, 0);
                argument(() -> wishing(3, "size 4 3;", "far 0 0 2;"), "plan", NO, 4, 0, 2, 0, 0, 0, bare, 0);
                s.due("no wishes", call(ready(), "plan", 0, 0, 0, bare, 0), NO);
                s.due("no plan", call(wishing(3, "size 4 3;", "far 0 0 12;"), "plan", 0, 0, 0, bare, 0), NO);
            }
        });
        s.of("Promise 26", "BLAME.", () -> {
            s.due("rule 0", wishing(2, "size 2 1;", "far 0 0 2;").blame(0, 0, 0), 0);
            s.due("rule 9", wishing(2, "size 2 1;", times(9, "far 0 0 1;") + "far 0 0 2;").blame(0, 0, 0), 9);
        });
        s.of("Promise 26", "NONE: there is a PLAN, or none without any one RULE, or there is none such (of any).", () -> {
            townLawDay(() -> wishing(2, "size 2 1;", "far 0 0 2;"), "blame", NO, 0, 0, 0);
            s.due("there is a plan", wishing(2, "size 2 1;", "far 0 0 1;").blame(0, 0, 0), NO);
            s.due("none without one", wishing(2, "size 2 1;", "far 0 0 2;far 0 0 3;").blame(0, 0, 0), NO);
            s.due("none without rules", wishing(2, "size 1 1;", "").blame(0, 0, 0), NO);
            s.due("no wishes: there is a plan of none", wishing(0, "size 1 1;", "far 0 0 2;").blame(0, 0, 0), NO);
        });
    }

    private void helpCalls() {
        s.of("Promise 27", "FEWEST (bits).", () -> {
            FarTown f = told("size 8 8;", "far 1 0 12;");
            for (int i = 0; i < 12; i++) {
                f.add(0, i < 11 ? 0 : 1, i % 8, i / 8, 0, 0, NO);
            }
            s.due("bit 11", f.fewest(0, 0, 0, false), 2048);
            s.due("bit 11, cheap", f.fewest(0, 0, 0, true), 2048);
            s.due("bit 0", told(PAIR, "far 0 0 2;").fewest(0, 0, 0, false), 1);
        });
        s.of("Promise 27", "NONE: there is none such (of any).", () -> {
            townLawDay(this::ready, "fewest", NO, 0, 0, 0, 0);
            townLawDay(this::ready, "fewest", NO, 0, 0, 0, 1);
        });
        s.of("Promise 28", "FENCED (bits).", () -> {
            s.due("bit 1", ready().fenced(0, 0, 0), 2);
            s.due("bit 5", told("size 4 2;thing 0 0 0 0 0;thing 0 3 0 7 0;" + times(5, "fence 0 1 1 1;") + "fence 1 0 1 1;", "far 0 0 4 wall;").fenced(0, 0, 0), 32);
        });
        s.of("Promise 28", "NONE: not by all of them, or there is none such (of any).", () -> {
            townLawDay(this::ready, "fenced", NO, 0, 0, 0);
            s.due("not by all", told("size 4 2;thing 0 0 0 0 0;thing 0 3 0 7 0;" + times(6, "fence 0 1 1 1;"), "far 0 0 4 wall;").fenced(0, 0, 0), NO);
            s.due("by none", told(PAIR, "far 0 0 2 wall;").fenced(0, 0, 0), NO);
        });
        s.of("Promise 30", "BESIDE.", () -> {
            FarTown f = told(PAIR, "far 0 0 2;", "", "far 0 0 3;");
            s.due("one", f.beside(0, 0, 1, 0), 1);
            s.due("none", f.beside(0, 0, 2, 0), 0);
        });
        s.of("Promise 30", "NONE: there is none such (of any).", () -> {
            argument(this::ready, "beside", NO, 0, 0, 1, 0, 0, 0, 0);
            argument(this::ready, "beside", NO, 1, 0, 1, 0, 0, 0, 0);
            argument(this::ready, "beside", NO, 2, 0, 1, 0, 0, 0, 0);
            argument(this::ready, "beside", NO, 3, 0, 999, 0, 0, 0, 0);
        });
        s.of("Promise 31", "MOVED (bits).", () -> {
            s.due("bit 0", told(PAIR, "far 0 0 2;").moved(0, 0, 0), 1);
            FarTown f = told("size 8 2;", "far 1 2 4;far 2 1 4;");
            for (int i = 0; i < 12; i++) {
                f.add(0, i < 10 ? 0 : i - 9, i < 10 ? i % 8 : i - 8, i < 10 ? i / 8 : 1, 0, 0, NO);
            }
            s.due("bit 10", f.moved(0, 0, 0), 1024);
            s.due("to", f.movedTo(0, 0, 0, 0), 15);
        });
        s.of("Promise 31", "NONE: not by 2, or there is none such (of any).", () -> {
            townLawDay(this::ready, "moved", NO, 0, 0, 0);
            s.due("not by 2", told("size 4 1;thing 0 0 0 0 0;thing 0 1 0 0 0;", "far 0 0 4;").moved(0, 0, 0), NO);
        });
        s.of("Promise 32", "To which POINT the k-th of MOVED (by numbers), from 0 on, as 8 * y + x.", () -> {
            FarTown f = told("size 1 8;thing 0 0 0 0 0;thing 0 0 1 0 0;thing 0 0 2 0 0;thing 0 0 3 0 0;", "far 0 0 2;");
            s.due("0 and 2", f.moved(0, 0, 0), 5);
            s.due("0 to", f.movedTo(0, 0, 0, 0), 40);
            s.due("2 to", f.movedTo(0, 0, 0, 1), 56);
        });
        s.of("Promise 32", "NONE: there is none such, or as moved().", () -> {
            townLawDay(() -> twice(PAIR, "far 0 0 2;"), "movedTo", NO, 0, 0, 0, 0);
            argument(() -> twice(PAIR, "far 0 0 2;"), "movedTo", NO, 3, 0, 0, 0, 0, 0, 0);
            argument(() -> told("size 3 1;thing 0 0 0 0 0;thing 0 1 0 0 0;thing 1 2 0 0 0;", "far 0 0 2;"), "movedTo", NO, 3, 0, 1, 0, 0, 0, 0);
            s.due("not by 2", told("size 2 1;thing 0 0 0 0 0;thing 0 1 0 0 0;", "far 0 0 2;").movedTo(0, 0, 0, 0), NO);
            s.due("none moves", told(PAIR, "far 0 0 1;").movedTo(0, 0, 0, 0), NO);
        });
    }

    private void otherCalls() {
        s.of("Promise 33", "QUIET (bits).", () -> {
            s.due("all but bit 7", told(PAIR + "wind 7 0;", "wind 0 0 2;").quiet(0, 0, 0), 127);
            s.due("all but bit 0", told(PAIR + "wind 0 4;", "wind 0 0 2;").quiet(0, 0, 0), 254);
        });
        s.of("Promise 33", "NONE: there is none such (of any).", () -> townLawDay(this::ready, "quiet", NO, 0, 0, 0));
        s.of("Promise 34", "ROOM.", () -> {
            s.due("0", told(PAIR, "far 0 0 1;").room(0, 0, 0), 0);
            s.due("12", told(PAIR, "").room(0, 0, 0), 12);
        });
        s.of("Promise 34", "NONE: there are BARS, or there is none such (of any).", () -> {
            s.due("bars", told(PAIR, "far 0 0 2;").room(0, 0, 0), NO);
            townLawDay(() -> twice(PAIR, "far 0 0 1;"), "room", NO, 0, 0, 0);
        });
        s.of("Promise 35", "How many of BARS are by a RULE.", () -> {
            FarTown f = told(PAIR + "wind 0 0;wind 1 4;", "far 0 0 1;far 0 0 2;wind 0 0 2;");
            int[] want = {0, 1, 2};
            for (int r = 0; r < 3; r++) {
                s.due("by " + r, f.by(0, 0, 0, r), want[r]);
            }
        });
        s.of("Promise 35", "NONE: there is none such (of any).", () -> {
            townLawDay(this::ready, "by", NO, 0, 0, 0, 0);
            argument(this::ready, "by", NO, 3, 0, 1, 0, 0, 0, 0);
            argument(() -> told(PAIR, times(10, "far 0 0 1;")), "by", NO, 3, 0, 9, 0, 0, 0, 0);
            s.due("no rules", told(PAIR, "").by(0, 0, 0, 0), NO);
        });
        s.of("Promise 36", "On how many DAYS, 0 .. 999, there are BARS, or (first) the first one.", () -> {
            FarTown f = told(PAIR, "far 0 0 2;", "");
            s.due("all", f.days(0, 0, false), 1000);
            s.due("from 0 on", f.days(0, 0, true), 0);
            s.due("none", f.days(0, 1, false), 0);
            FarTown g = told("size 2 1;thing 0 0 0 0 999;thing 0 1 0 0 0;", "far 0 0 2;");
            s.due("one", g.days(0, 0, false), 1);
            s.due("the last", g.days(0, 0, true), 999);
            FarTown h = told("size 8 1;thing 0 0 0 0 0;thing 0 1 0 0 5;thing 1 6 0 0 0;thing 1 7 0 0 10;wall 6 0 7 0 20;grow 2 1;", "far 0 0 2;far 1 1 2 wall;");
            s.due("gone", h.gone(0, 0, 8), true);
            s.due("with a gap", h.days(0, 0, false), 13);
            s.due("the first of them", h.days(0, 0, true), 5);
            FarTown i = told("size 8 1;thing 0 0 0 0 0;thing 1 7 0 0 0;grow 0 99;", "far 0 1 1;");
            s.due("when it has grown", i.days(0, 0, true), 693);
            s.due("from then on", i.days(0, 0, false), 307);
        });
        s.of("Promise 36", "NONE: there is none such (of either), for the first: there are none on any.", () -> {
            for (int first = 0; first < 2; first++) {
                argument(this::ready, "days", NO, 0, 0, 1, 0, 0, first);
                argument(this::ready, "days", NO, 1, 0, 1, 0, 0, first);
            }
            s.due("none on any", told(PAIR, "").days(0, 0, true), NO);
        });
        s.of("Promise 37", "FEUD.", () -> {
            s.due("0 and 7", told(PAIR, "far 0 0 2;").feud(0, 0, 0, 0, 7), 1);
            s.due("0 alone", told(PAIR, "far 0 0 2;").feud(0, 0, 0, 0, 0), 0);
        });
        s.of("Promise 37", "NONE: there is none such (of any).", () -> {
            townLawDay(this::ready, "feud", NO, 0, 0, 0, 0, 0);
            argument(this::ready, "feud", NO, 3, 0, 7, 0, 0, 0, 0, 0);
            argument(this::ready, "feud", NO, 4, 0, 7, 0, 0, 0, 0, 0);
        });
        s.of("Promise 38", "How many: 0 TOWNS, 1 LAWS.", () -> {
            FarTown f = told("size 1 1;", "", "", "");
            s.due("towns", f.count(0), 1);
            s.due("laws", f.count(1), 3);
        });
        s.of("Promise 38", "-2 for another what.", () -> {
            for (int what : new int[] {Integer.MIN_VALUE, -2, -1, 2, 3, Integer.MAX_VALUE}) {
                s.due("what " + what, ready().count(what), -2);
            }
        });
    }

    private void images() {
        s.of("Promise 39", "Image k (0 .. 2) is all that is told (the tape, the FAULT, too), as it is now: true;", () -> {
            FarTown f = ready();
            for (int k = 0; k < 3; k++) {
                f.wish(0, k, NO);
                Checks.law(f, "far 0 0 1" + times(k, " "));
                f.feed(0, 0, 0, 0, 0);
                f.end(k + 3);
                s.due("image " + k, f.image(k), true);
                f.end(0);
            }
            f.forget(0);
            f.gone(0, 0, 5);
            Checks.town(f, "size 8 8;");
            Checks.law(f, "");
            for (int k = 2; k >= 0; k--) {
                s.due("again " + k, f.again(k), true);
                s.due("wishes", f.about(0, 9), k + 1);
                s.due("towns", f.count(0), 2);
                s.due("laws", f.count(1), 2);
                s.due("not gone", f.thing(0, 0, 7), NO);
                s.due("the fault", f.fault(0), 1);
                s.due("its place", f.fault(1), 9 + k);
                s.due("the tape", f.end(k + 4), NO);
                s.due("all of it", f.end(k + 3), k + 3);
            }
        });
        s.of("Promise 39", "false for another k.", () -> {
            FarTown f = ready();
            for (int k : new int[] {-1, 3, 4, Integer.MIN_VALUE, Integer.MAX_VALUE}) {
                s.due("image " + k, f.image(k), false);
                s.due("again " + k, f.again(k), false);
            }
            for (int k = 0; k < 3; k++) {
                s.due("no image " + k, f.again(k), false);
            }
        });
        s.of("Promise 40", "All that is as image k has it: true;", () -> {
            FarTown f = new FarTown();
            s.due("image of a new object", f.image(2), true);
            Checks.town(f, TOWN);
            Checks.law(f, LAW);
            Checks.tell(f, 0, "harm;");
            s.due("image 1", f.image(1), true);
            f.law(0);
            f.add(0, 1, 2, 2, 0, 0, 3);
            s.due("again 1", f.again(1), true);
            s.due("things", f.about(0, 2), 3);
            s.due("rules", f.ruled(0, 0), 2);
            f.add(0, 1, 2, 2, 0, 0, 3);
            f.gone(0, 0, 1);
            s.due("again 1, once more", f.again(1), true);
            s.due("what came behind it is not in the image", f.about(0, 2), 3);
            s.due("nobody is gone", f.thing(0, 0, 7), NO);
            s.due("the tape of the image", f.law(0), 0);
            s.due("it is its text", f.ruled(0, 1), 1);
            s.due("again 2", f.again(2), true);
            s.due("no towns", f.count(0), 0);
            s.due("no laws", f.count(1), 0);
            s.due("no tape", f.end(1), NO);
            s.due("images stay", f.again(1), true);
            s.due("a town", f.count(0), 1);
            s.due("image 2 anew", f.image(2), true);
            s.due("another image", f.end(0), 0);
            s.due("again 2", f.again(2), true);
            s.due("as it is anew", f.count(0), 1);
            s.due("with its tape", f.end(5), 5);
        });
        s.of("Promise 40", "false if there is none such.", () -> {
            FarTown f = ready();
            s.due("image 1", f.image(1), true);
            s.due("wish", f.wish(0, 0, NO), 1);
            for (int k : new int[] {0, 2, -1, 3, Integer.MIN_VALUE, Integer.MAX_VALUE}) {
                s.due("again " + k, f.again(k), false);
            }
            s.due("nothing is another", f.about(0, 9), 1);
            s.due("again 1", f.again(1), true);
            s.due("without the wish", f.about(0, 9), 0);
        });
    }
}
