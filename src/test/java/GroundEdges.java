/** Terms 3 and 4: where a kind may stand, plans, and what would help. */
final class GroundEdges extends Edges {
    private static final String T = "Terms 3";
    private static final String U = "Terms 4";

    GroundEdges(Sentences s) {
        super(s);
    }

    @Override
    void play() {
        may();
        plans();
        bareGround();
        fewest();
        fenced();
        smellsAndBeside();
        moved();
        movedPoints();
        quietRoomFeud();
    }

    private void may() {
        s.of(T, "A KIND MAY stand at a POINT on a DAY, if nothing stands there,", () -> {
            FarTown f = told("size 2 1;thing 0 0 0 0 5;", "");
            f.gone(0, 0, 9);
            s.due("a day ahead", f.may(0, 0, 4, 1, 0, 0, NO), true);
            s.due("since that day", f.may(0, 0, 5, 1, 0, 0, NO), false);
            s.due("the last day", f.may(0, 0, 8, 1, 0, 0, NO), false);
            s.due("gone", f.may(0, 0, 9, 1, 0, 0, NO), true);
            s.due("beside it", f.may(0, 0, 8, 1, 1, 0, NO), true);
        });
        s.of(T, "and, SINCE then, no RULE BARS it and what STANDS", () -> {
            FarTown f = told("size 8 1;thing 0 0 0 0 0;grow 0 10;grow 1 1;", "far 0 1 2;", "far 1 0 2;");
            for (int law = 0; law < 2; law++) {
                s.due("nearer", f.may(0, law, 9, 1, 1, 0, NO), false);
                s.due("as far as that", f.may(0, law, 9, 1, 2, 0, NO), true);
                s.due("the one that stands has grown, it has not", f.may(0, law, 10, 1, 2, 0, NO), false);
                s.due("by 1", f.may(0, law, 19, 1, 3, 0, NO), true);
                s.due("by 5", f.may(0, law, 59, 1, 6, 0, NO), false);
                s.due("by 5, as far as that", f.may(0, law, 59, 1, 7, 0, NO), true);
            }
            FarTown g = told("size 3 1;thing 0 0 0 0 0;thing 0 1 0 0 0;", "far 0 0 2;");
            s.due("whatever bars the others", g.may(0, 0, 0, 1, 2, 0, NO), true);
            s.due("what stands not yet", told("size 2 1;thing 0 0 0 0 5;", "far 0 1 2;").may(0, 0, 4, 1, 1, 0, NO), true);
        });
        s.of(T, "(it FACES as told, or not).", () -> {
            FarTown f = told("size 3 1;thing 0 0 0 0 0 faces 0;", "face 0 1 9;");
            for (int faces = -1; faces < 4; faces++) {
                s.due("facing " + faces, f.may(0, 0, 0, 1, 2, 0, faces), faces != 2);
            }
        });
        s.of(T, "SPOTS: POINTS at which it may, by y, then x.", () -> {
            FarTown f = told("size 3 2;thing 0 1 0 0 0;", "", "far 0 1 9;");
            int[] want = {0, 2, 8, 9, 10, NO};
            s.due("spots", f.spots(0, 0, 0, 1, NO), 5);
            for (int k = 0; k < want.length; k++) {
                s.due("spot " + k, f.spot(0, 0, 0, 1, NO, k), want[k]);
            }
            s.due("none", f.spots(0, 1, 0, 1, NO), 0);
            s.due("the first of none", f.spot(0, 1, 0, 1, NO, 0), NO);
            FarTown g = told("size 8 8;", "");
            s.due("all", g.spots(0, 0, 0, 0, NO), 64);
            s.due("the last", g.spot(0, 0, 0, 0, NO, 63), 63);
            s.due("no further one", g.spot(0, 0, 0, 0, NO, 64), NO);
        });
    }

    private void plan(FarTown f, int law, int day, boolean bare, int... want) {
        for (int k = 0; k < want.length; k++) {
            s.due((bare ? "bare " : "") + "plan by " + law + " on " + day + ", " + k, f.plan(0, law, day, bare, k), want[k]);
        }
        s.due("none behind it", f.plan(0, law, day, bare, want.length), NO);
    }

    private FarTown wishing(FarTown f, int... kinds) {
        for (int i = 0; i < kinds.length; i++) {
            s.due("wish " + i, f.wish(0, kinds[i], NO), i + 1);
        }
        return f;
    }

    private void plans() {
        s.of(T, "WISHES, at most 3 of a TOWN: KINDS, each FACING or not.", () -> {
            FarTown f = told("size 2 2;");
            s.due("second town", Checks.town(f, "size 2 2;"), 1);
            for (int i = 1; i <= 3; i++) {
                s.due("wish " + i, f.wish(0, 5, i - 2), i);
            }
            s.due("a fourth", f.wish(0, 5, NO), NO);
            s.due("wishes", f.about(0, 9), 3);
            s.due("of the other town", f.about(1, 9), 0);
            s.due("a wish in it", f.wish(1, 0, 3), 1);
            for (int a = -1; a < 4; a++) {
                for (int b = -1; b < 4; b++) {
                    FarTown g = told("size 2 1;", "face 0 1 2;");
                    s.due("a wish", g.wish(0, 0, a), 1);
                    s.due("another one", g.wish(0, 1, b), 2);
                    boolean turned = a == 0 && b == 2;
                    plan(g, 0, 0, false, turned ? 1 : 0, turned ? 0 : 1);
                }
            }
            FarTown h = told("size 2 1;thing 0 0 0 0 0 faces 0;", "face 0 1 2;");
            s.due("facing a thing", h.wish(0, 1, 2), 1);
            plan(h, 0, 0, false, NO);
            plan(h, 0, 0, true, 0);
            s.due("forget", h.forget(0), true);
            s.due("not facing it", h.wish(0, 1, NO), 1);
            plan(h, 0, 0, false, 1);
        });
        s.of(T, "PLAN on a DAY by a LAW: a POINT for each WISH, unlike ones, where nothing stands,", () -> {
            FarTown f = wishing(told("size 2 2;thing 0 0 0 0 5;", ""), 1, 1, 1);
            plan(f, 0, 4, false, 0, 1, 8);
            plan(f, 0, 5, false, 1, 8, 9);
            FarTown g = wishing(told("size 2 2;thing 0 0 0 0 5;thing 0 1 0 0 6;", ""), 1, 1, 1);
            plan(g, 0, 5, false, 1, 8, 9);
            plan(g, 0, 6, false, NO, NO, NO);
            s.due("one gone", g.gone(0, 0, 7), true);
            plan(g, 0, 7, false, 0, 8, 9);
            plan(wishing(told("size 1 2;", ""), 0, 0, 0), 0, 0, false, NO, NO, NO);
            plan(wishing(told("size 1 2;", ""), 0, 0), 0, 0, false, 0, 8);
            plan(told("size 1 2;", ""), 0, 0, false);
        });
        s.of(T, "so that no RULE BARS two of them, or one of them and one that STANDS (they are there SINCE that DAY);", () -> {
            FarTown f = wishing(told("size 5 1;thing 2 0 0 0 0;grow 0 1;grow 1 1;", "far 0 1 2;far 2 0 2;", "far 1 0 3;far 2 1 2;", "far 0 1 12;"), 0, 1);
            plan(f, 0, 999, false, 2, 4);
            plan(f, 1, 999, false, 1, 4);
            plan(f, 2, 999, false, NO, NO);
            FarTown g = wishing(told("size 7 1;", "far 0 0 3;", "far 0 0 4;"), 0, 0, 0);
            plan(g, 0, 0, false, 0, 3, 6);
            plan(g, 1, 0, false, NO, NO, NO);
            FarTown h = wishing(told("size 4 1;thing 0 0 0 0 0;grow 0 5;", "far 0 1 2;"), 1);
            plan(h, 0, 4, false, 2);
            plan(h, 0, 5, false, 3);
            plan(h, 0, 10, false, NO);
            FarTown i = wishing(told("size 6 1;thing 0 0 0 0 0;thing 0 1 0 0 0;", "far 0 0 2;"), 0);
            plan(i, 0, 0, false, 3);
        });
        s.of(T, "the least row (8 * y + x).", () -> {
            plan(wishing(told("size 8 8;", ""), 0, 0, 0), 0, 0, false, 0, 1, 2);
            plan(wishing(told("size 1 8;", ""), 0, 0, 0), 0, 0, false, 0, 8, 16);
            // The first one's point is as low as it can be, whatever the others'.
            plan(wishing(told("size 3 1;thing 2 0 0 0 0;", "far 2 0 2;", ""), 0, 1), 0, 0, false, 2, 1);
            plan(wishing(told("size 3 3;", "far 0 1 2;"), 0, 1, 0), 0, 0, false, 0, 2, 8);
            plan(wishing(told("size 2 2;", "far 0 0 2;"), 0, 0), 0, 0, false, NO, NO);
            plan(wishing(told("size 3 1;thing 1 2 0 0 0;", "far 2 1 2;"), 2, 0), 0, 0, false, 0, 1);
            // The first one at 0 would leave no point for the second.
            plan(wishing(told("size 3 1;thing 1 2 0 0 0;", "far 2 1 2;"), 0, 2), 0, 0, false, 1, 0);
            plan(wishing(told("size 2 1;thing 1 1 0 0 9;", "flow 0 2 9;", ""), 0, 2), 0, 0, false, 0, 1);
            plan(wishing(told("size 2 1;slope down 1 up 0;", "flow 0 2 9;"), 0, 2), 0, 0, false, 1, 0);
            // The second one alone has the first point, then the third one.
            plan(wishing(told("size 3 1;slope down 1 up 0;", "flow 0 1 9;"), 0, 1, 2), 0, 0, false, 1, 0, 2);
            plan(wishing(told("size 3 1;slope down 1 up 0;", "flow 0 2 9;flow 1 2 9;"), 0, 1, 2), 0, 0, false, 1, 2, 0);
            plan(wishing(told("size 1 3;slope up 0 down 1;", "flow 0 1 9;flow 1 2 9;"), 0, 1, 2), 0, 0, false, 16, 8, 0);
        });
    }

    private void bareGround() {
        s.of(T, "BARE: the same on the TOWN's ground if nothing stood on it (WALLS stay).", () -> {
            FarTown f = wishing(told("size 2 1;thing 0 0 0 0 0;thing 0 1 0 0 0;wall 0 0 1 0 7;fence 0 0 1 0;wind 0 0;",
                "far 0 0 9;", "far 0 0 9 wall;", "wind 0 0 2;"), 0, 0);
            plan(f, 0, 0, true, NO, NO);
            plan(f, 1, 6, true, NO, NO);
            plan(f, 1, 7, true, 0, 1);
            plan(f, 1, 7, false, NO, NO);
            plan(f, 2, 7, true, NO, NO);
            plan(wishing(told("size 2 1;thing 0 0 0 0 0;", "far 0 1 9;"), 1), 0, 0, true, 0);
            plan(wishing(told("size 2 1;thing 0 0 0 0 0;", "far 0 1 9;"), 1), 0, 0, false, NO);
        });
        s.of(T, "BLAME: if there is no PLAN on it BARE, the first RULE without which there would be one.", () -> {
            FarTown f = wishing(told("size 2 1;thing 0 0 0 0 0;thing 0 1 0 0 0;", "far 1 1 2;far 0 0 2;far 0 0 1;", "far 0 0 2;far 0 0 3;", "far 0 0 1;"), 0, 0);
            s.due("the second rule", f.blame(0, 0, 0), 1);
            s.due("none alone", f.blame(0, 1, 0), NO);
            s.due("there is one bare", f.blame(0, 2, 0), NO);
            s.due("though not among the things", f.plan(0, 2, 0, false, 0), NO);
            FarTown g = wishing(told("size 2 1;", "far 0 1 1;far 0 1 2;far 1 0 1;", times(9, "far 5 5 12;") + "far 0 1 2;"), 0, 1);
            s.due("whichever the first", g.blame(0, 0, 0), 1);
            s.due("the last rule", g.blame(0, 1, 0), 9);
            FarTown h = wishing(told("size 2 1;", "far 0 0 2;far 0 1 2;", "far 0 0 2;"), 0, 0, 1);
            s.due("no ground for so many", h.blame(0, 0, 0), NO);
            s.due("no ground for so many, by one rule", h.blame(0, 1, 0), NO);
            FarTown i = wishing(told("size 4 1;", "far 5 5 1;far 0 1 3;far 0 2 3;", "far 0 1 3;far 0 2 3;far 1 2 3;"), 0, 1, 2);
            s.due("the first of two that each would do", i.blame(0, 0, 0), 1);
            s.due("two would have to go", i.blame(0, 1, 0), NO);
        });
    }

    private void fewest() {
        s.of(T, "FEWEST: the fewest of those that STAND without which nothing BARS,", () -> {
            FarTown f = told("size 5 1;thing 0 0 0 0 0;thing 0 1 0 0 0;thing 0 2 0 0 0;thing 0 3 0 0 5;thing 0 4 0 0 5;", "far 0 0 2;", "far 0 0 1;");
            s.due("the middle of three", f.fewest(0, 0, 4, false), 2);
            s.due("two of five", f.fewest(0, 0, 5, false), 10);
            s.due("nothing bars", f.fewest(0, 1, 5, false), 0);
            s.due("nothing bars, cheap", f.fewest(0, 1, 5, true), 0);
            s.due("gone", f.gone(0, 1, 5), true);
            s.due("the middle of the last three", f.fewest(0, 0, 5, false), 8);
        });
        s.of(T, "or (cheap) those of the least COST together, then the fewest;", () -> {
            String star = "size 3 3;thing 0 1 1 0 0;thing 1 0 1 0 0;thing 1 2 1 0 0;thing 1 1 0 0 0;";
            s.due("at first", told(star, "far 0 1 2;").fewest(0, 0, 0, true), 1);
            s.due("just dearer", told(star + "cost 0 4;", "far 0 1 2;").fewest(0, 0, 0, true), 14);
            s.due("as dear: the fewest", told(star + "cost 0 3;", "far 0 1 2;").fewest(0, 0, 0, true), 1);
            s.due("whatever it costs", told(star + "cost 0 99;", "far 0 1 2;").fewest(0, 0, 0, false), 1);
            s.due("for nothing", told(star + "cost 0 0;cost 1 0;cost 2 0;cost 3 0;", "far 0 1 2;").fewest(0, 0, 0, true), 1);
            s.due("none for nothing that bars nothing", told(star + "cost 1 0;cost 0 99;", "far 0 1 1;").fewest(0, 0, 0, true), 0);
        });
        s.of(T, "of several the least row.", () -> {
            FarTown f = told("size 2 2;thing 0 0 0 0 0;thing 1 1 0 0 0;thing 1 0 1 0 0;thing 0 1 1 0 0;", "far 0 1 2;");
            s.due("0 and 3 ahead of 1 and 2", f.fewest(0, 0, 0, false), 9);
            s.due("cheap, too", f.fewest(0, 0, 0, true), 9);
            FarTown g = told("size 4 1;thing 0 0 0 0 0;thing 0 1 0 0 0;thing 0 2 0 0 0;thing 0 3 0 0 0;", "far 0 0 2;");
            s.due("0 and 2 ahead of 1 and 2, 1 and 3", g.fewest(0, 0, 0, false), 5);
        });
    }

    private void fenced() {
        String two = "size 3 3;thing 0 0 0 0 0;thing 1 2 0 0 0;thing 1 0 2 0 5;";
        s.of(T, "FENCED: the fewest FENCES that, if they were WALLS that stand, leave no BARS;", () -> {
            FarTown f = told(two + "fence 1 0 1 1;fence 0 1 1 1;fence 0 1 1 0;", "far 0 1 3 wall;", "far 0 1 3 wall;far 0 1 3;", "far 0 1 2 wall;");
            s.due("one for one", f.fenced(0, 0, 4), 1);
            s.due("one for two, not two", f.fenced(0, 0, 5), 4);
            s.due("none helps against a rule without wall", f.fenced(0, 1, 5), NO);
            s.due("nothing bars", f.fenced(0, 2, 5), 0);
            s.due("ends count", told(two + "fence 2 0 2 2;fence 0 2 1 2;", "far 0 1 3 wall;").fenced(0, 0, 5), 3);
            s.due("no fences, nothing bars", told(two, "far 0 1 2 wall;").fenced(0, 0, 5), 0);
            s.due("no fences", told(two, "far 0 1 3 wall;").fenced(0, 0, 5), NO);
            s.due("not by all", told(two + "fence 1 0 1 1;", "far 0 1 3 wall;").fenced(0, 0, 5), NO);
            StringBuilder six = new StringBuilder("size 6 2;");
            StringBuilder fences = new StringBuilder();
            for (int x = 0; x < 6; x++) {
                six.append("thing 0 ").append(x).append(" 0 0 0;thing 1 ").append(x).append(" 1 0 0;");
                fences.append("fence ").append(x).append(" 0 ").append(x).append(" 1;");
            }
            s.due("all six", told(six.toString() + fences, "far 0 1 2 wall;").fenced(0, 0, 0), 63);
            FarTown g = told("size 6 2;thing 0 0 0 0 0;thing 1 0 1 0 0;thing 2 2 0 0 0;thing 3 2 1 0 0;thing 4 4 0 0 0;thing 5 4 1 0 0;fence 4 0 4 1;"
                + "fence 5 0 5 1;fence 2 0 2 1;fence 3 0 3 1;fence 0 0 0 1;fence 1 0 1 1;", "far 0 1 2 wall;far 2 3 2 wall;far 4 5 2 wall;");
            s.due("three of six", g.fenced(0, 0, 0), 21);
        });
        s.of(T, "FENCED: the fewest FENCES that, if they were WALLS that stand, leave no BARS; of several the least row.", () -> {
            FarTown f = told(two + "fence 2 2 1 2;fence 1 0 1 1;fence 1 0 2 1;fence 0 1 1 1;fence 0 1 1 2;", "far 0 1 3 wall;");
            s.due("1 and 3, not 2 and 4", f.fenced(0, 0, 5), 10);
            s.due("the first of two", f.fenced(0, 0, 4), 2);
        });
    }

    private void smellsAndBeside() {
        s.of(T, "SMELLS: in how many HOURS a THING lies DOWNWIND of another one.", () -> {
            String two = "size 2 1;thing 0 0 0 0 5;thing 0 1 0 0 9;";
            s.due("none", told(two).smells(0, 0, 1), 0);
            StringBuilder all = new StringBuilder(two);
            for (int hour = 0; hour < 8; hour++) {
                all.append("wind ").append(hour).append(" 0;");
            }
            s.due("all", told(all.toString()).smells(0, 0, 1), 8);
            s.due("none the other way", told(all.toString()).smells(0, 1, 0), 0);
            FarTown off = told("size 4 4;thing 0 1 3 0 0;thing 0 2 2 0 0;thing 0 1 1 0 0;wind 1 7;wind 2 6;");
            s.due("one off the corner, aslant", off.smells(0, 0, 1), 2);
            s.due("one off the corner, upright", off.smells(0, 0, 2), 2);
            s.due("upright, the other way", off.smells(0, 2, 0), 0);
            // At dx, dy -1, -1 the wind toward 6 has 1 along and 1 across, that toward 7 has 0 along.
            s.due("from between", off.smells(0, 1, 2), 1);
            s.due("the first and the last", told(two + "wind 0 1;wind 7 7;wind 3 2;wind 4 4;").smells(0, 0, 1), 2);
        });
        s.of(T, "BESIDE: two of THINGS that are BARRED (by whichever RULES) by just one of two LAWS, how many.", () -> {
            FarTown f = told("size 3 1;thing 0 0 0 0 0;thing 0 1 0 0 0;thing 0 2 0 0 5;wind 0 0;wind 1 4;", "far 0 0 2;", "wind 0 0 3;far 0 0 3;", "");
            s.due("neither", f.beside(0, 2, 2, 5), 0);
            s.due("both, by other rules", f.beside(0, 0, 1, 4), 0);
            s.due("one of three", f.beside(0, 0, 1, 5), 1);
            s.due("told the other way", f.beside(0, 1, 0, 5), 1);
            s.due("once by several rules and both ways", f.beside(0, 1, 2, 5), 3);
            s.due("one law twice", f.beside(0, 1, 1, 5), 0);
        });
    }

    private void moves(FarTown f, int law, int day, int want, int... to) {
        s.due("moved by " + law + " on " + day, f.moved(0, law, day), want);
        for (int k = 0; k < to.length; k++) {
            s.due("moved by " + law + " on " + day + ", to " + k, f.movedTo(0, law, day, k), to[k]);
        }
        s.due("no further one", f.movedTo(0, law, day, to.length), NO);
        s.due("none ahead", f.movedTo(0, law, day, -1), NO);
    }

    private void moved() {
        s.of(U, "MOVED: the fewest of those that STAND, 2 at most,", () -> {
            FarTown f = told("size 8 1;thing 0 0 0 0 0;thing 0 1 0 0 0;thing 0 2 0 0 5;thing 0 3 0 0 5;thing 0 4 0 0 6;thing 0 5 0 0 6;", "far 0 0 2;");
            moves(f, 0, 0, 1, 3);
            moves(f, 0, 5, 5, 5, 7);
            moves(f, 0, 6, NO);
            FarTown g = told("size 8 1;thing 0 0 0 0 0;thing 0 1 0 0 0;thing 0 2 0 0 0;", "far 0 0 2;");
            moves(g, 0, 0, 2, 4);
            s.due("gone", g.gone(0, 1, 3), true);
            moves(g, 0, 3, 0);
        });
        s.of(U, "that can be put to other POINTS where nothing (else) stands", () -> {
            // It can't stay where it is, nor go where another stays, but where another goes from.
            moves(told("size 2 1;thing 0 0 0 0 0;thing 0 1 0 0 0;", "far 0 0 2;"), 0, 0, NO);
            moves(told("size 3 1;thing 0 0 0 0 0;thing 0 1 0 0 0;thing 1 2 0 0 0;", "far 0 0 2;"), 0, 0, 6, 2, 1);
            moves(told("size 3 1;thing 0 0 0 0 0;thing 0 1 0 0 0;thing 1 2 0 0 1;", "far 0 0 2;"), 0, 0, 2, 2);
            moves(told("size 2 1;thing 0 0 0 0 0;thing 1 1 0 0 0;slope down 1 up 0;", "flow 0 1 5;"), 0, 0, 3, 1, 0);
            // Smaller where it is would do, but it must go elsewhere.
            moves(told("size 3 1;thing 0 0 0 0 0;thing 1 2 0 0 0;grow 0 5;", "far 0 1 2;"), 0, 5, 3, 2, 0);
            moves(told("size 4 1;thing 0 1 0 0 0;thing 1 3 0 0 0;grow 0 5;", "far 0 1 2;"), 0, 5, 1, 0);
            moves(told("size 2 1;thing 0 1 0 0 0;thing 1 0 0 0 0;grow 0 5;", "far 0 1 1;"), 0, 5, 3, 0, 1);
            moves(told("size 1 2;thing 0 0 1 0 0;thing 1 0 0 0 0;grow 0 5;", "far 0 1 1;"), 0, 5, 3, 0, 8);
            moves(told("size 2 2;thing 0 1 1 0 0;thing 1 0 0 0 0;thing 2 1 0 0 0;thing 2 0 1 0 0;grow 0 5;", "far 0 1 1;"), 0, 5, 3, 0, 9);
        });
        s.of(U, "(they are there SINCE that DAY, as KIND and as they FACE; the lesser number as the first one),", () -> {
            FarTown f = told("size 5 1;thing 0 0 0 0 0;thing 1 1 0 0 0;grow 0 1;", "far 0 1 3;");
            moves(f, 0, 0, 1, 4);
            moves(f, 0, 1, 1, 4);
            moves(f, 0, 999, 1, 4);
            FarTown g = told("size 5 1;thing 1 0 0 0 0;thing 0 1 0 0 0;grow 0 1;", "far 0 1 3;");
            moves(g, 0, 0, 1, 4);
            moves(g, 0, 1, 2, 3);
            FarTown h = told("size 3 1;thing 0 0 0 0 0 faces 0;thing 0 1 0 0 0 faces 2;", "face 0 0 3;");
            moves(h, 0, 0, 1, 2);
            FarTown i = told("size 3 1;thing 0 1 0 0 0 faces 0;thing 0 2 0 0 0 faces 2;", "face 0 0 3;");
            moves(i, 0, 0, 2, 0);
        });
    }

    private void movedPoints() {
        s.of(U, "so that nothing BARS any more;", () -> {
            moves(told("size 4 1;thing 0 0 0 0 0;thing 0 1 0 0 0;thing 1 3 0 0 0;", "far 0 0 2;far 0 1 2;"), 0, 0, NO);
            moves(told("size 5 1;thing 0 0 0 0 0;thing 0 1 0 0 0;thing 1 4 0 0 0;", "far 0 0 2;far 0 1 2;"), 0, 0, 2, 2);
            moves(told("size 4 1;thing 0 0 0 0 0;thing 0 1 0 0 0;wall 3 0 2 0 3;", "far 0 0 3;far 0 0 9 wall;"), 0, 3, 2, 3);
        });
        s.of(U, "of several the least row, then the least row of POINTS (8 * y + x).", () -> {
            moves(told("size 8 8;thing 0 3 3 0 0;thing 0 4 3 0 0;", "far 0 0 2;"), 0, 0, 1, 0);
            moves(told("size 3 3;thing 0 0 0 0 0;thing 0 1 0 0 0;", "far 0 0 2;"), 0, 0, 1, 16);
            moves(told("size 8 8;thing 0 0 0 0 0;thing 0 1 0 0 0;thing 1 5 0 0 0;thing 1 6 0 0 0;", "far 0 0 2;far 1 1 2;"), 0, 0, 5, 3, 0);
            moves(told("size 4 3;thing 0 0 0 0 0;thing 0 1 0 0 0;thing 0 2 0 0 0;thing 0 3 0 0 0;", "far 0 0 2;"), 0, 0, 5, 16, 18);
        });
        s.of(U, "(None, if there are no BARS.)", () -> {
            FarTown f = told("size 2 1;thing 0 0 0 0 0;thing 0 1 0 0 5;", "far 0 0 2;", "");
            moves(f, 0, 4, 0);
            moves(f, 1, 5, 0);
            moves(f, 0, 5, NO);
            moves(told("size 1 1;", ""), 0, 0, 0);
        });
    }

    private void quietRoomFeud() {
        s.of(U, "QUIET: HOURS in which, if the WIND blew in that one alone, no RULE wind BARS.", () -> {
            FarTown f = told("size 3 1;thing 0 0 0 0 0;thing 1 1 0 0 5;wind 0 0;wind 3 4;wind 7 1;", "wind 0 1 2;", "wind 1 0 2;", "far 0 1 2;");
            s.due("all but 0 and 7", f.quiet(0, 0, 5), 126);
            s.due("all but 3", f.quiet(0, 1, 5), 247);
            s.due("other rules bar in all", f.quiet(0, 2, 5), 255);
            s.due("not there yet", f.quiet(0, 0, 4), 255);
            StringBuilder all = new StringBuilder("size 3 1;thing 0 0 0 0 0;thing 1 1 0 0 5;");
            for (int hour = 0; hour < 8; hour++) {
                all.append("wind ").append(hour).append(" 0;");
            }
            s.due("none", told(all.toString(), "wind 0 1 2;").quiet(0, 0, 5), 0);
            s.due("behind a wall", told(all + "wall 0 0 1 0 6;", "wind 0 1 2 wall;").quiet(0, 0, 5), 0);
            s.due("behind a wall that stands", told(all + "wall 0 0 1 0 6;", "wind 0 1 2 wall;").quiet(0, 0, 6), 255);
            s.due("no wind at all", told("size 3 1;thing 0 0 0 0 0;thing 1 1 0 0 5;", "wind 0 1 2;").quiet(0, 0, 5), 255);
        });
        s.of(U, "ROOM: the greatest n, 0 .. 12, by which all RULES could want more with no BARS.", () -> {
            FarTown f = told("size 8 8;thing 0 0 0 0 0;thing 1 7 0 0 0;thing 2 7 7 0 0;", "far 0 1 7;", "far 0 1 8;", "far 0 1 1;far 0 2 9;");
            s.due("just none", f.room(0, 0, 0), 0);
            s.due("bars", f.room(0, 1, 0), NO);
            s.due("the least of all rules", f.room(0, 2, 0), 0);
            s.due("no rules", told("size 1 1;", "").room(0, 0, 0), 12);
            s.due("no things", told("size 1 1;", "far 0 0 12;").room(0, 0, 0), 12);
            s.due("up to 9.9", told("size 8 8;thing 0 0 0 0 0;thing 0 7 7 0 0;", "far 0 0 1;").room(0, 0, 0), 8);
            s.due("two kinds 7 apart", told("size 8 1;thing 0 0 0 0 0;thing 1 7 0 0 0;", "far 1 0 1;").room(0, 0, 0), 6);
            s.due("with a wall all of it", told("size 8 1;thing 0 0 0 0 0;thing 1 7 0 0 0;wall 3 0 4 0 0;", "far 1 0 1 wall;").room(0, 0, 0), 12);
            s.due("upwind all of it", told("size 8 1;thing 0 0 0 0 0;thing 1 7 0 0 0;wind 0 0;", "wind 1 0 1;").room(0, 0, 0), 12);
            s.due("downwind 6", told("size 8 1;thing 0 0 0 0 0;thing 1 7 0 0 0;wind 0 0;", "wind 0 1 1;").room(0, 0, 0), 6);
            s.due("grown by 2", told("size 8 1;thing 0 0 0 0 0;thing 1 7 0 0 0;grow 1 5;", "far 0 1 1;").room(0, 0, 10), 4);
        });
        s.of(U, "FEUD of two HOUSES: how many of BARS are between a THING of the one and one of the other (of one HOUSE: of its own).", () -> {
            FarTown f = told("size 4 1;thing 0 0 0 0 0;thing 0 1 0 7 0;thing 0 2 0 0 0;thing 1 3 0 7 5;", "far 0 0 2;far 0 1 9;far 0 0 3;");
            s.due("0 and 7 ahead of the last", f.feud(0, 0, 4, 0, 7), 4);
            s.due("0 and 7", f.feud(0, 0, 5, 0, 7), 6);
            s.due("7 and 0", f.feud(0, 0, 5, 7, 0), 6);
            s.due("of its own", f.feud(0, 0, 5, 0, 0), 1);
            s.due("of its own, too", f.feud(0, 0, 5, 7, 7), 1);
            s.due("none of it", f.feud(0, 0, 5, 3, 0), 0);
            s.due("a house without things", f.feud(0, 0, 5, 3, 3), 0);
        });
        s.of(U, "The constants: `NONE = -1`: There is none.", () -> s.due("NONE", FarTown.NONE, -1));
    }
}
