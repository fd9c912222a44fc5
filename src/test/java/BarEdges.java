/** Terms 2: who stands, which two may not stand so, who must go and who pays. */
final class BarEdges extends Edges {
    private static final String T = "Terms 2";
    // House 1 since 5, house 2 since 9, side by side.
    private static final String PAIR = "size 2 1;thing 0 0 0 1 5;thing 0 1 0 2 9;";

    BarEdges(Sentences s) {
        super(s);
    }

    @Override
    void play() {
        standing();
        distance();
        besides();
        walls();
        firstAndSecond();
        shortBy();
        mustGo();
        leave();
        silence();
        pays();
        firstDay();
    }

    private void standing() {
        s.of(T, "On a DAY THINGS STAND that are there SINCE it or earlier, and not GONE.", () -> {
            FarTown f = told(PAIR, "far 0 0 2;");
            f.gone(0, 0, 20);
            s.due("a day ahead", f.bars(0, 0, 8), 0);
            s.due("since that day", f.bars(0, 0, 9), 1);
            s.due("the last day", f.bars(0, 0, 19), 1);
            s.due("gone from that day on", f.bars(0, 0, 20), 0);
            FarTown g = told("size 2 1;thing 0 0 0 0 0;thing 0 1 0 0 0;", "far 0 0 2;");
            s.due("on day 0", g.bars(0, 0, 0), 1);
            s.due("on day 999", g.bars(0, 0, 999), 1);
        });
    }

    private void distance() {
        s.of(T, "if they are nearer to one another than d and what both have GROWN together.", () -> {
            for (int d = 1; d <= 12; d++) {
                for (int x = 1; x <= 7; x++) {
                    FarTown f = told("size 8 1;thing 0 0 0 0 0;thing 1 " + x + " 0 0 0;", "far 0 1 " + d + ";");
                    s.due(x + " apart by " + d, f.bars(0, 0, 0), x < d ? 1 : 0);
                }
            }
            FarTown f = told("size 8 8;thing 0 0 0 0 0;thing 1 3 4 0 0;thing 1 7 7 0 0;", "far 0 1 5;", "far 0 1 6;", "far 0 1 10;");
            s.due("5 apart aslant by 5", f.bars(0, 0, 0), 0);
            s.due("5 apart aslant by 6", f.bars(0, 1, 0), 1);
            s.due("just below 10 apart by 10", f.bars(0, 2, 0), 2);
            FarTown g = told("size 8 1;thing 0 0 0 0 0;thing 1 7 0 0 2;grow 0 3;grow 1 5;", "far 0 1 4;");
            s.due("grown by 2 and 1, as far as apart", g.bars(0, 0, 8), 0);
            s.due("grown by 3 and 1", g.bars(0, 0, 9), 1);
            FarTown h = told("size 8 1;thing 0 0 0 0 0;thing 1 7 0 0 2;grow 1 5;", "far 0 1 6;", "far 1 0 6;");
            s.due("grown by 1, one of them alone", h.bars(0, 0, 11), 0);
            s.due("grown by 2, one of them alone", h.bars(0, 0, 12), 1);
            s.due("whichever the first", h.bars(0, 1, 12), 1);
        });
        s.of(T, "RULE far k l d BARS two of them, one of KIND k, one of l,", () -> {
            FarTown f = told("size 3 1;thing 2 0 0 0 0;thing 3 1 0 0 0;thing 2 2 0 0 0;", "far 2 3 2;", "far 3 2 2;", "far 2 2 3;");
            s.due("2 and 3", f.bars(0, 0, 0), 2);
            s.due("3 and 2", f.bars(0, 1, 0), 2);
            s.due("2 and 2", f.bars(0, 2, 0), 1);
            s.due("3 and 3", told("size 2 1;thing 2 0 0 0 0;thing 3 1 0 0 0;", "far 3 3 9;far 2 2 9;").bars(0, 0, 0), 0);
        });
    }

    private void besides() {
        s.of(T, "The others BAR them likewise, if besides: wind: that of l lies DOWNWIND of that of k in some HOUR.", () -> {
            FarTown f = told("size 5 1;thing 0 0 0 0 0;thing 1 3 0 0 0;wind 7 0;", "wind 0 1 4;", "wind 1 0 4;", "wind 0 1 3;");
            s.due("downwind", f.bars(0, 0, 0), 1);
            s.due("upwind", f.bars(0, 1, 0), 0);
            s.due("as far as that", f.bars(0, 2, 0), 0);
            FarTown g = told("size 5 1;thing 0 0 0 0 0;thing 1 3 0 0 0;wind 0 0;wind 3 4;wind 5 0;", "wind 0 1 4;wind 1 0 4;");
            s.due("once for two hours", g.bars(0, 0, 0), 2);
            s.due("no wind at all", told("size 5 1;thing 0 0 0 0 0;thing 1 3 0 0 0;", "wind 0 1 4;wind 1 0 4;").bars(0, 0, 0), 0);
            s.due("across the wind", told("size 5 1;thing 0 0 0 0 0;thing 1 3 0 0 0;wind 0 2;", "wind 0 1 4;").bars(0, 0, 0), 0);
        });
        s.of(T, "flow: that of k is higher.", () -> {
            String two = "size 5 1;thing 0 0 0 0 0;thing 1 3 0 0 0;";
            s.due("higher", told(two + "slope down 1 up 0;", "flow 0 1 4;").bars(0, 0, 0), 1);
            s.due("lower", told(two + "slope up 1 up 0;", "flow 0 1 4;").bars(0, 0, 0), 0);
            s.due("as high", told(two + "slope up 0 up 9;", "flow 0 1 4;flow 1 0 4;").bars(0, 0, 0), 0);
            s.due("as far as that", told(two + "slope down 1 up 0;", "flow 0 1 3;").bars(0, 0, 0), 0);
            FarTown f = told("size 3 4;thing 0 2 0 0 0;thing 1 0 3 0 0;slope up 3 up 2;", "flow 0 1 9;flow 1 0 9;");
            s.due("as high aslant", f.bars(0, 0, 0), 0);
        });
        s.of(T, "face: each lies straight ahead of the other one as they FACE (same y or x).", () -> {
            for (int a = -1; a < 4; a++) {
                for (int b = -1; b < 4; b++) {
                    FarTown f = told("size 4 4;", "face 0 1 4;");
                    f.add(0, 0, 0, 1, 0, 0, a);
                    f.add(0, 1, 3, 1, 0, 0, b);
                    s.due("facing " + a + " and " + b, f.bars(0, 0, 0), a == 0 && b == 2 ? 1 : 0);
                    FarTown g = told("size 4 4;", "face 0 1 4;");
                    g.add(0, 0, 1, 3, 0, 0, a);
                    g.add(0, 1, 1, 0, 0, 0, b);
                    s.due("upright, facing " + a + " and " + b, g.bars(0, 0, 0), a == 3 && b == 1 ? 1 : 0);
                }
            }
            FarTown h = told("size 4 4;thing 0 0 0 0 0 faces 0;thing 1 3 1 0 0 faces 2;thing 1 3 3 0 0 faces 3;", "face 0 1 9;");
            s.due("aslant", h.bars(0, 0, 0), 0);
            s.due("as far as that", told("size 4 1;thing 0 0 0 0 0 faces 0;thing 1 3 0 0 0 faces 2;", "face 0 1 3;").bars(0, 0, 0), 0);
        });
    }

    private void walls() {
        s.of(T, "With wall they BAR only if no WALL that stands is BETWEEN.", () -> {
            String two = "size 3 3;thing 0 0 0 0 0 faces 0;thing 1 2 0 0 0 faces 2;wind 0 0;slope down 1 up 0;";
            String built = two + "wall 1 0 1 2 7;wall 1 1 2 1 0;fence 1 0 1 1;";
            for (String sort : new String[] {"far", "wind", "flow", "face"}) {
                FarTown f = told(built, sort + " 0 1 3 wall;", sort + " 0 1 3;");
                s.due(sort + " a day ahead of the wall", f.bars(0, 0, 6), 1);
                s.due(sort + " on its day", f.bars(0, 0, 7), 0);
                s.due(sort + " without the word", f.bars(0, 1, 7), 1);
            }
        });
    }

    private void checkBars(FarTown f, int law, int[][] want) {
        s.due("bars by " + law, f.bars(0, law, 0), want.length);
        for (int k = 0; k < want.length; k++) {
            for (int i = 0; i < want[k].length; i++) {
                s.due("bar " + k + " by " + law + ", " + i, f.bar(0, law, 0, k, i), want[k][i]);
            }
        }
    }

    private void firstAndSecond() {
        s.of(T, "(The first one is that of k; a far or face of one KIND twice: the lesser number is the first one.", () -> {
            FarTown f = told("size 2 1;thing 1 0 0 0 0 faces 0;thing 0 1 0 0 0 faces 2;", "far 0 1 2;face 0 1 2;", "far 1 0 2;face 1 0 2;");
            checkBars(f, 0, new int[][] {{1, 0, 0}, {1, 0, 1}});
            checkBars(f, 1, new int[][] {{0, 1, 0}, {0, 1, 1}});
            FarTown g = told("size 2 1;thing 0 1 0 0 9 faces 2;thing 0 0 0 0 0 faces 0;wind 0 0;wind 1 4;slope up 1 up 0;",
                "far 0 0 2;", "face 0 0 2;", "wind 0 0 2;flow 0 0 2;");
            s.due("far once", g.bars(0, 0, 9), 1);
            s.due("the lesser number", g.bar(0, 0, 9, 0, 0), 0);
            s.due("the greater number", g.bar(0, 0, 9, 0, 1), 1);
            s.due("face once", g.bars(0, 1, 9), 1);
            s.due("the lesser number, too", g.bar(0, 1, 9, 0, 0), 0);
            s.due("wind both ways, flow one way", g.bars(0, 2, 9), 3);
        });
        s.of(T, "THINGS that are one never BAR.)", () -> {
            FarTown f = told("size 2 1;thing 0 0 0 0 0 faces 0;wind 0 0;", "far 0 0 12;wind 0 0 12;flow 0 0 12;face 0 0 12;");
            s.due("one alone", f.bars(0, 0, 0), 0);
            s.due("first of one", f.first(0, 0, 0, 0), NO);
        });
        s.of(T, "BARS: all so BARRED by a LAW on a DAY, by the first one, then the second one, then the RULE.", () -> {
            FarTown f = told("size 3 1;thing 0 0 0 0 0;thing 0 1 0 0 0;thing 1 2 0 0 0;", "far 1 0 9;far 0 1 9;far 0 0 9;far 0 1 9;", "");
            checkBars(f, 0, new int[][] {{0, 1, 2}, {0, 2, 1}, {0, 2, 3}, {1, 2, 1}, {1, 2, 3}, {2, 0, 0}, {2, 1, 0}});
            checkBars(f, 1, new int[][] {});
        });
    }

    private void shortBy() {
        s.of(T, "SHORT: by how much less d would have to be, at the least, that they were no nearer.", () -> {
            for (int d = 2; d <= 12; d++) {
                FarTown f = told("size 8 8;thing 0 0 0 0 0;thing 1 1 0 0 0;thing 2 1 1 0 0;thing 3 3 4 0 0;thing 4 7 7 0 0;",
                    "far 0 1 " + d + ";far 0 2 " + d + ";far 0 3 " + d + ";far 0 4 " + d + ";");
                s.due("1 apart by " + d, f.bar(0, 0, 0, 0, 3), d - 1);
                s.due("1.4 apart by " + d, f.bar(0, 0, 0, 1, 3), d - 1);
                s.due("5 apart by " + d, f.bar(0, 0, 0, 2, 3), d > 5 ? d - 5 : ODD);
                s.due("9.9 apart by " + d, f.bar(0, 0, 0, 3, 3), d > 9 ? d - 9 : ODD);
            }
            FarTown f = told("size 8 8;thing 0 6 5 0 0;thing 1 2 2 0 0;", "far 0 1 8;", "far 1 0 8;");
            s.due("5 apart, the first one off the corner", f.bar(0, 0, 0, 0, 3), 3);
            s.due("5 apart, the other one first", f.bar(0, 1, 0, 0, 3), 3);
            FarTown g = told("size 8 1;thing 0 0 0 0 0;thing 1 7 0 0 0;grow 0 1;grow 1 1;", "far 0 1 1;");
            s.due("more than d, by what both have grown", g.bar(0, 0, 999, 0, 3), 12);
            s.due("just so", g.bar(0, 0, 4, 0, 3), 2);
            s.due("nothing is short", g.bars(0, 0, 3), 0);
        });
    }

    private void mustGo() {
        s.of(T, "by later: who stands SINCE a later DAY, of one DAY the greater number;", () -> {
            String ruled = "far 0 1 2;";
            s.due("the second is later", told("size 2 1;thing 0 0 0 0 5;thing 1 1 0 0 6;", ruled).bar(0, 0, 9, 0, 4), 1);
            s.due("the first is later", told("size 2 1;thing 0 0 0 0 6;thing 1 1 0 0 5;", ruled).bar(0, 0, 9, 0, 4), 0);
            s.due("of one day the second", told("size 2 1;thing 0 0 0 0 5;thing 1 1 0 0 5;", ruled).bar(0, 0, 9, 0, 4), 1);
            s.due("of one day the first", told("size 2 1;thing 1 0 0 0 5;thing 0 1 0 0 5;", ruled).bar(0, 0, 9, 0, 4), 1);
        });
        s.of(T, "By each of BARS one must GO,", () -> {
            FarTown f = told("size 3 1;thing 0 0 0 0 1;thing 0 1 0 0 2;thing 0 2 0 0 3;", "far 0 0 2;");
            s.due("all that must", f.goes(0, 0, 3), 6);
            s.due("ahead of the third", f.goes(0, 0, 2), 2);
            s.due("none", f.goes(0, 0, 1), 0);
        });
        s.of(T, "by harm: the first one.", () -> {
            FarTown f = told("size 2 1;thing 0 0 0 0 5;thing 1 1 0 0 9;", "far 0 1 2;harm;", "far 1 0 2;harm;", "far 0 1 2;harm;later;");
            s.due("that of k", f.bar(0, 0, 9, 0, 4), 0);
            s.due("that of k, the other way", f.bar(0, 1, 9, 0, 4), 1);
            s.due("later was told later", f.bar(0, 2, 9, 0, 4), 1);
            s.due("of one kind the lesser number", told(PAIR, "far 0 0 2;harm;").goes(0, 0, 9), 1);
        });
    }

    private void leave() {
        s.of(T, "Not so, by LEAVE (if the LAW has leave): if the other one's HOUSE gave it to his HOUSE by his SINCE;", () -> {
            String law = "far 0 0 2;leave;";
            s.due("on his day", told(PAIR + "leave 1 2 9;", law).bar(0, 0, 9, 0, 4), NO);
            s.due("on day 0", told(PAIR + "leave 1 2 0;", law).goes(0, 0, 9), 0);
            s.due("a day late", told(PAIR + "leave 1 2 10;", law).goes(0, 0, 99), 2);
            s.due("from him", told(PAIR + "leave 2 1 0;", law).goes(0, 0, 9), 2);
            s.due("to another house", told(PAIR + "leave 1 3 0;", law).goes(0, 0, 9), 2);
            s.due("by another house", told(PAIR + "leave 3 2 0;", law).goes(0, 0, 9), 2);
            s.due("the law has none", told(PAIR + "leave 1 2 0;", "far 0 0 2;").goes(0, 0, 9), 2);
            s.due("the twelfth", told(PAIR + times(11, "leave 2 1 0;") + "leave 1 2 9;", law).goes(0, 0, 9), 0);
            s.due("by harm the other way", told(PAIR + "leave 2 1 5;", law + "harm;").goes(0, 0, 9), 0);
            s.due("by harm a day late", told(PAIR + "leave 2 1 6;", law + "harm;").goes(0, 0, 9), 1);
            String own = "size 2 1;thing 0 0 0 3 5;thing 0 1 0 3 9;";
            s.due("of one house, not given", told(own, law).goes(0, 0, 9), 2);
            s.due("of one house, given", told(own + "leave 3 3 9;", law).goes(0, 0, 9), 0);
        });
    }

    private void silence() {
        s.of(T, "nor by SILENCE (if the LAW has silent n): if n DAYS are past since both stand,", () -> {
            for (int n : new int[] {1, 2, 99}) {
                FarTown f = told(PAIR, "far 0 0 2;silent " + n + ";", "far 0 0 2;silent " + n + ";harm;");
                s.due("on the first day", f.goes(0, 0, 9), 2);
                s.due("a day ahead of " + n, f.goes(0, 0, 8 + n), 2);
                s.due("past " + n, f.goes(0, 0, 9 + n), 0);
                s.due("it bars as ever", f.bars(0, 0, 9 + n), 1);
                s.due("who must", f.bar(0, 0, 9 + n, 0, 4), NO);
                s.due("by harm a day ahead", f.goes(0, 1, 8 + n), 1);
                s.due("by harm past", f.goes(0, 1, 9 + n), 0);
            }
            s.due("the law has none", told(PAIR, "far 0 0 2;").goes(0, 0, 999), 2);
        });
        s.of(T, "and the other one did not object to him in these (from that DAY to n DAYS later).", () -> {
            String law = "far 0 0 2;silent 3;";
            int[] goes = {0, 2, 2, 2, 2, 0};
            for (int i = 0; i < goes.length; i++) {
                s.due("objected on " + (8 + i), told(PAIR + "object 0 1 " + (8 + i) + ";", law).goes(0, 0, 12), goes[i]);
                s.due("for ever, objected on " + (8 + i), told(PAIR + "object 0 1 " + (8 + i) + ";", law).goes(0, 0, 999), goes[i]);
                s.due("by him, on " + (8 + i), told(PAIR + "object 1 0 " + (8 + i) + ";", law).goes(0, 0, 12), 0);
            }
            s.due("the twelfth", told(PAIR + times(11, "object 0 1 0;") + "object 0 1 9;", law).goes(0, 0, 12), 2);
            s.due("by harm", told(PAIR + "object 1 0 12;", law + "harm;").goes(0, 0, 12), 1);
            s.due("by harm the other way", told(PAIR + "object 0 1 12;", law + "harm;").goes(0, 0, 12), 0);
            String third = "size 2 2;thing 0 0 0 1 5;thing 0 1 0 2 9;thing 1 0 1 1 0;thing 1 1 1 2 0;";
            s.due("another thing of that house", told(third + "object 2 1 9;", law).goes(0, 0, 12), 0);
            s.due("to another thing", told(third + "object 0 3 9;", law).goes(0, 0, 12), 0);
        });
    }

    private void pays() {
        s.of(T, "PAYS: the COST of each THING that must GO, once, by the first of BARS by which it must:", () -> {
            FarTown f = told("size 3 1;thing 0 1 0 1 9;thing 1 0 0 2 5;thing 1 2 0 3 10;cost 0 99;cost 1 0;", "far 0 1 2;far 0 1 2;", "far 0 1 2;harm;");
            s.due("once by two rules", f.pays(0, 0, 9, 1), 99);
            s.due("the third pays for itself", f.pays(0, 0, 10, 3), 1);
            s.due("the one who was there does not", f.pays(0, 0, 10, 2), 0);
            s.due("by harm, by the first of them, who was there earlier", f.pays(0, 1, 10, 1), 99);
            s.due("not by the second of them", f.pays(0, 1, 10, 3), 0);
            FarTown g = told("size 3 1;thing 0 1 0 1 9;thing 1 0 0 2 10;thing 1 2 0 3 5;cost 0 99;", "far 0 1 2;harm;");
            s.due("by the first of them, who came later", g.pays(0, 0, 10, 2), 99);
            s.due("not himself", g.pays(0, 0, 10, 1), 0);
            FarTown between = told("size 3 1;thing 0 0 0 1 1;thing 0 1 0 2 9;thing 0 2 0 3 5;cost 1 50;cost 2 7;", "far 0 0 3;");
            s.due("once, though another one must between", between.pays(0, 0, 9, 2), 50);
            s.due("the other one, too", between.pays(0, 0, 9, 3), 7);
            FarTown h = told("size 3 1;thing 0 1 0 1 9;thing 1 0 0 2 10;thing 1 2 0 3 5;cost 0 99;leave 2 1 0;", "far 0 1 2;harm;leave;");
            s.due("the first by which he must, not the first", h.pays(0, 0, 10, 1), 99);
            s.due("none by the one who gave leave", h.pays(0, 0, 10, 2), 0);
        });
        s.of(T, "his HOUSE, if he stands SINCE a later DAY (or by the greater number of one DAY), else the other one's.", () -> {
            String law = "far 0 1 2;harm;";
            int[][] days = {{6, 5}, {5, 5}, {5, 6}};
            int[] payer = {1, 2, 2};
            int[] turned = {1, 1, 2};
            for (int i = 0; i < 3; i++) {
                FarTown f = told("size 2 1;thing 0 0 0 1 " + days[i][0] + ";thing 1 1 0 2 " + days[i][1] + ";cost 0 7;", law);
                s.due("since " + days[i][0] + " and " + days[i][1], f.pays(0, 0, 9, payer[i]), 7);
                s.due("not the other", f.pays(0, 0, 9, 3 - payer[i]), 0);
                FarTown g = told("size 2 1;thing 1 0 0 2 " + days[i][1] + ";thing 0 1 0 1 " + days[i][0] + ";cost 1 7;", law);
                s.due("the other number, since " + days[i][0] + " and " + days[i][1], g.pays(0, 0, 9, turned[i]), 7);
            }
        });
    }

    private void firstDay() {
        s.of(T, "FIRST of two THINGS by a LAW: the first DAY on which some RULE BARS them.", () -> {
            FarTown f = told("size 8 1;thing 0 0 0 0 0;thing 0 1 0 0 0;thing 1 2 0 0 999;thing 2 7 0 0 0;grow 2 99;",
                "far 0 0 2;far 0 1 3;far 0 2 3;", "far 0 2 1;");
            s.due("on day 0", f.first(0, 0, 0, 1), 0);
            s.due("on day 999", f.first(0, 0, 2, 0), 999);
            s.due("when it has grown to more", f.first(0, 0, 3, 0), 495);
            s.due("by another law", f.first(0, 1, 3, 0), 693);
            FarTown g = told(PAIR + "wall 0 0 1 0 10;", "far 0 0 2 wall;", "far 0 0 1;far 0 0 2 wall;");
            s.due("though not for ever", g.first(0, 0, 1, 0), 9);
            s.due("by the second rule", g.first(0, 1, 0, 1), 9);
            s.due("gone", g.gone(0, 0, 9), true);
            s.due("they never stood on one day", g.first(0, 0, 0, 1), NO);
        });
    }
}
