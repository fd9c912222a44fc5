/** Each promise by hand: ordinary inputs, the edges that the document names, wrong inputs. */
public final class PromisesTest {
    private static final int NO = FarTown.NONE;
    private static final String TOWN = "size 5 4;thing 0 0 0 1 5;thing 1 3 0 2 9;thing 1 3 3 1 9;thing 2 0 2 3 1 faces 0;"
        + "thing 2 3 2 4 20 faces 2;wall 1 0 1 3 30;wind 0 0;wind 3 2;slope up 1 down 2;cost 1 7;grow 1 10;leave 1 2 9;"
        + "object 0 1 12;";
    private static final String FENCES = "fence 0 1 4 1;fence 2 0 2 1;";
    private static final String LAW = "far 0 1 4;face 2 2 4 wall;wind 0 2 3;flow 1 1 9;";

    private static final Checks C = new Checks();

    public static void main(String[] args) {
        tape();
        townsAndLaws();
        refused();
        townFaults();
        lawFaults();
        told();
        addedAndGone();
        distances();
        crossings();
        barsOfTheTown();
        orderOfBars();
        mostBars();
        goesAndPays();
        leaveAndSilence();
        firstDays();
        spots();
        plans();
        blames();
        fewest();
        fences();
        winds();
        beside();
        moved();
        quietAndRoom();
        feuds();
        images();
        C.finish();
    }

    private static void due(String call, long got, long want) {
        C.due(call, got, want);
    }

    private static void due(String call, boolean got, boolean want) {
        C.due(call, got, want);
    }

    private static FarTown told(String town, String... laws) {
        FarTown f = new FarTown();
        due("town of " + town, Checks.town(f, town), 0);
        for (int i = 0; i < laws.length; i++) {
            due("law of " + laws[i], Checks.law(f, laws[i]), i);
        }
        return f;
    }

    /** Promises 1, 2, 3. */
    private static void tape() {
        FarTown f = new FarTown();
        due("new: towns", f.count(0), 0);
        due("new: laws", f.count(1), 0);
        due("new: fault", f.fault(0), 0);
        due("new: place", f.fault(1), NO);
        due("new: image 0", f.again(0), false);
        due("new: end(0)", f.end(0), 0);
        due("new: end(1)", f.end(1), NO);
        for (int i = 1; i <= 25; i++) {
            due("feed " + i, f.feed(i, 0, -1, Integer.MIN_VALUE, 7), 20 * i);
        }
        due("a 26th feed", f.feed(1, 2, 3, 4, 5), NO);
        due("nothing came", f.end(501), NO);
        due("end(500)", f.end(500), 500);
        due("end(-1)", f.end(-1), NO);
        due("end(481)", f.end(481), 481);
        due("feed to 501", f.feed(1, 2, 3, 4, 5), NO);
        due("end(480)", f.end(480), 480);
        due("feed to 500", f.feed(1, 2, 3, 4, 5), 500);
        due("count 2", f.count(2), -2);
        due("count -1", f.count(-1), -2);
    }

    /** Promises 4, 5, 6, 38. */
    private static void townsAndLaws() {
        FarTown f = new FarTown();
        due("town in the place of none", f.town(0), -2);
        due("town -2", f.town(-2), -2);
        due("first town", Checks.town(f, "size 1 2;"), 0);
        due("the tape is empty", f.end(1), NO);
        due("second town", Checks.town(f, "\n size\n2 3;"), 1);
        due("third town", Checks.town(f, "size3 4 ;\n\n"), 2);
        Checks.tell(f, 0, "nonsense");
        due("a fourth town", f.town(NO), -2);
        due("no fault then", f.fault(0), 0);
        due("no place then", f.fault(1), NO);
        due("the tape is taken all the same", f.end(1), NO);
        due("town 3", f.town(3), -2);
        due("towns", f.count(0), 3);
        f.wish(1, 0, NO);
        Checks.tell(f, 0, "nonsense");
        due("a wrong text in the place of one", f.town(1), NO);
        due("its fault", f.fault(0), 1);
        due("the tape is empty after a fault", f.end(1), NO);
        due("the one stays", f.about(1, 1), 3);
        due("its wishes, too", f.about(1, 9), 1);
        Checks.tell(f, 0, "size 7 8;");
        due("a text in the place of one", f.town(1), 1);
        due("no fault any more", f.fault(0), 0);
        due("no place any more", f.fault(1), NO);
        due("the other fault", f.fault(2), NO);
        due("the other one", f.about(1, 0), 7);
        due("its wishes are gone", f.about(1, 9), 0);
        due("towns", f.count(0), 3);
        due("law of nothing", f.law(NO), 0);
        due("rules of nothing", f.ruled(0, 0), 0);
        due("law 1", Checks.law(f, "harm;"), 1);
        due("law 2", Checks.law(f, "far 0 0 1;"), 2);
        due("laws", f.count(1), 3);
        Checks.tell(f, 0, "!");
        due("a fourth law", f.law(NO), -2);
        due("a law that is not", f.law(3), -2);
        due("no fault", f.fault(0), 0);
        due("the tape is taken all the same", f.end(1), NO);
        Checks.tell(f, 0, "!");
        due("a wrong law", f.law(2), NO);
        due("its fault", f.fault(0), 1);
        due("the law stays", f.ruled(2, 0), 1);
        due("law in the place of one", f.law(2), 2);
        due("it has no rules", f.ruled(2, 0), 0);
        due("laws", f.count(1), 3);
    }

    /** Promises 4, 5, 6: a town or law that is refused takes the tape, reads nothing, and has no fault. */
    private static void refused() {
        int[] wrong = {0, -2, 2, 3, Integer.MIN_VALUE, Integer.MAX_VALUE};
        for (int at : wrong) {
            refuse(new FarTown(), at);
        }
        FarTown f = new FarTown();
        for (int i = 0; i < 3; i++) {
            due("town " + i, Checks.town(f, "size 1 2;"), i);
            due("law " + i, Checks.law(f, "far 0 0 1;"), i);
        }
        refuse(f, NO);
        refuse(f, 3);
        due("towns", f.count(0), 3);
        due("laws", f.count(1), 3);
        due("image", f.image(0), true);
        due("feed ahead of the image", f.feed(1, 2, 3, 4, 5), 20);
        due("image", f.image(1), true);
        due("town 3", f.town(3), -2);
        due("again", f.again(1), true);
        due("the image's tape", f.end(20), 20);
        due("again", f.again(0), true);
        due("the image's tape", f.end(1), NO);
    }

    private static void refuse(FarTown f, int at) {
        int towns = f.count(0);
        int laws = f.count(1);
        for (int way = 0; way < 2; way++) {
            Checks.tell(f, 0, "!");
            due("a text that is none", towns == 3 ? f.town(0) : f.town(NO), NO);
            due("its fault", f.fault(0), 1);
            Checks.tell(f, 0, way == 0 ? "size 3 3;" : "harm;");
            due("refused at " + at, way == 0 ? f.town(at) : f.law(at), -2);
            due("no fault at " + at, f.fault(0), 0);
            due("no place at " + at, f.fault(1), NO);
            due("feed behind it", f.feed(0, 0, 0, 0, 0), 20);
            due("end behind it", f.end(0), 0);
        }
        due("towns behind it", f.count(0), towns);
        due("laws behind it", f.count(1), laws);
    }

    private static void townFault(String text, int fault, int place) {
        FarTown f = new FarTown();
        due("town of " + text, Checks.town(f, text), fault == 0 ? 0 : NO);
        due("fault of " + text, f.fault(0), fault);
        due("place of " + text, f.fault(1), place);
        due("towns after " + text, f.count(0), fault == 0 ? 1 : 0);
    }

    private static String times(int n, String text) {
        StringBuilder s = new StringBuilder();
        for (int i = 0; i < n; i++) {
            s.append(text);
        }
        return s.toString();
    }

    /** Promises 4 and 6: the faults of a town. */
    private static void townFaults() {
        townFault("", 1, 0);
        townFault("  \n ", 1, 4);
        townFault("size", 1, 4);
        townFault("size 1 1", 1, 8);
        townFault("size 1 1; ", 0, NO);
        townFault("siz 1 1;", 1, 0);
        townFault("sizes 1 1;", 1, 0);
        townFault("Size 1 1;", 1, 0);
        townFault("size 1 1;;", 1, 9);
        townFault("size 1 1;\t", 1, 9);
        townFault("size 1 1;" + (char) 233, 1, 9);
        townFault("size 0 1;", 2, 5);
        townFault("size 9 1;", 2, 5);
        townFault("size 1 0;", 2, 7);
        townFault("size 0008 1;", 0, NO);
        townFault("size 00008 1;", 1, 5);
        townFault("size 1 1;thing 0 1 0 0 0;", 2, 17);
        townFault("size 1 1;thing 0 0 1 0 0;", 2, 19);
        townFault("size 2 2;thing 0 1 0 0 0;thing 0 1 0 0 0;", 4, 33);
        townFault("size 2 2;thing 0 1 0 0 0;thing 0 1 0 8 500;", 4, 33);
        townFault("size 2 2;thing 0 1 0 0 0;thing 6 1 0 0 0;", 2, 31);
        townFault("size 2 2;thing 0 1 0 0 0;thing 0 1 2 0 0;", 2, 35);
        townFault("size 2 2;wall 1 1 1 1 0;", 2, 20);
        townFault("size 2 2;wall 1 1 1 2 0;", 2, 20);
        townFault("size 2 2;wall 2 1 2 1 0;", 2, 14);
        townFault("size 2 2;wall 1 1 1 0 1000;", 2, 22);
        townFault("size 2 2;wall 1 1 1 0;", 1, 21);
        townFault("size 2 2;fence 1 1 1 1;", 2, 21);
        townFault("size 2 2;fence 1 1 0 1 0;", 1, 23);
        townFault("size 2 2;thing 6 0 0 0 0;", 2, 15);
        townFault("size 2 2;thing 0 0 0 8 0;", 2, 21);
        townFault("size 2 2;thing 0 0 0 0 1000;", 2, 23);
        townFault("size 2 2;thing 0 0 0 0 999;", 0, NO);
        townFault("size 2 2;thing 0 0 0 0 0 faces 4;", 2, 31);
        townFault("size 2 2;thing 0 0 0 0 0 faces;", 1, 30);
        townFault("size 2 2;thing 0 0 0 0 0 face 1;", 1, 25);
        townFault("size 2 2;object 0 1 1;", 2, 16);
        townFault("size 2 2;thing 0 0 0 0 0;object 0 0 1;", 2, 34);
        townFault("size 2 2;thing 0 0 0 0 0;object 0 1 1;", 2, 34);
        townFault("size 2 2;object 0 1 1;thing 0 0 0 0 0;thing 0 1 0 0 0;", 2, 16);
        townFault("size 2 2;thing 0 0 0 0 0;thing 0 1 0 0 0;object 1 0 999;", 0, NO);
        townFault("size 2 2;thing 0 0 0 0 0;cost 1 1;", 2, 30);
        townFault("size 2 2;thing 0 0 0 0 0;cost 0 100;", 2, 32);
        townFault("size 2 2;slope 1 1;", 1, 15);
        townFault("size 2 2;slope up 1 1;", 1, 20);
        townFault("size 2 2;slope up 10 up 1;", 2, 18);
        townFault("size 2 2;slope up 9 down 10;", 2, 25);
        townFault("size 2 2;grow 0 0;", 2, 16);
        townFault("size 2 2;grow 0 100;", 2, 16);
        townFault("size 2 2;grow 6 1;", 2, 14);
        townFault("size 2 2;wind 8 0;", 2, 14);
        townFault("size 2 2;wind 0 8;", 2, 16);
        townFault("size 2 2;leave 8 0 0;", 2, 15);
        townFault("size 2 2;leave 0 8 0;", 2, 17);
        townFault("size 2 2;leave 0 0 1000;", 2, 19);
        townFault("size 2 2;leave 0 0 0;", 0, NO);
        townFault("size 2 2;tree 0;", 1, 9);
        townFault("size 9 2;tree 0;", 1, 9);
        townFault("size 2 2;size 2 2;", 1, 9);
        many();
    }

    private static void many() {
        townFault("size 2 2;" + times(6, "fence 0 0 1 1;"), 0, NO);
        townFault("size 2 2;" + times(7, "fence 0 0 1 1;"), 3, 93);
        townFault("size 2 2;" + times(6, "fence 0 0 1 1;") + "fence 0 0 2 1;", 3, 93);
        townFault("size 2 2;" + times(7, "fence 0 0 1 1;") + "x", 1, 107);
        townFault("size 2 2;" + times(8, "wall 0 0 1 1 0;"), 0, NO);
        townFault("size 2 2;" + times(9, "wall 0 0 1 1 0;"), 3, 129);
        townFault("size 2 2;" + times(12, "leave 0 0 0;"), 0, NO);
        townFault("size 2 2;" + times(13, "leave 0 0 0;"), 3, 153);
        String two = "size 2 2;thing 0 0 0 0 0;thing 0 1 0 0 0;";
        townFault(two + times(12, "object 0 1 0;"), 0, NO);
        townFault(two + times(13, "object 0 1 0;"), 3, 41 + 12 * 13);
        townFault("size 2 2;" + times(40, "wind 0 0;"), 0, NO);
        townFault("size 2 2;" + times(41, "wind 0 0;"), 3, 369);
        townFault("size 2 2;" + times(40, "wind 0 0;") + "wind 9 0;", 3, 369);
        StringBuilder s = new StringBuilder("size 8 8;");
        for (int i = 0; i < 12; i++) {
            s.append("thing 0 ").append(i % 8).append(' ').append(i / 8).append(" 0 0;");
        }
        townFault(s.toString(), 0, NO);
        townFault(s + "thing 0 0 0 0 0;", 3, 9 + 12 * 16);
        townFault(s + "thing 0 7 7 0 0;", 3, 9 + 12 * 16);
    }

    private static void lawFault(String text, int fault, int place) {
        FarTown f = new FarTown();
        due("law of " + text, Checks.law(f, text), fault == 0 ? 0 : NO);
        due("fault of " + text, f.fault(0), fault);
        due("place of " + text, f.fault(1), place);
        due("laws after " + text, f.count(1), fault == 0 ? 1 : 0);
    }

    /** Promises 5 and 6: the faults of a law. */
    private static void lawFaults() {
        lawFault("", 0, NO);
        lawFault("far 0 0 13;", 2, 8);
        lawFault("far 0 0 0;", 2, 8);
        lawFault("far 0 0 12;", 0, NO);
        lawFault("far 0 0;", 1, 7);
        lawFault("far 6 0 1;", 2, 4);
        lawFault("far 0 6 1;", 2, 6);
        lawFault("far 6 6 13;", 2, 4);
        lawFault("silent 0;", 2, 7);
        lawFault("silent 100;", 2, 7);
        lawFault("silent 99;silent 1;", 0, NO);
        lawFault("silent;", 1, 6);
        lawFault(times(10, "far 0 0 1;") + "later;harm;leave;silent 2;", 0, NO);
        lawFault("later;harm;leave;silent 2;" + times(10, "far 0 0 1;"), 0, NO);
        lawFault(times(11, "far 0 0 1;"), 3, 100);
        lawFault(times(10, "far 0 0 1;") + "face 9 9 99 wall;", 3, 100);
        lawFault("far 0 0 1 wal;", 1, 10);
        lawFault("far 0 0 1 wall wall;", 1, 15);
        lawFault("later", 1, 5);
        lawFault("later 1;", 1, 6);
        lawFault("far 0 0 12345;", 1, 8);
        lawFault("size 1 1;", 1, 0);
        lawFault("far0 0 1wall;", 0, NO);
        lawFault("far 00 0 1;", 0, NO);
        lawFault("far -1 0 1;", 1, 4);
    }

    /** Promises 7, 8, 9. */
    private static void told() {
        FarTown f = told(TOWN + FENCES + "wind 3 5;slope down 9 up 0;cost 1 99;grow 1 7;", LAW, "harm;silent 3;leave;later;silent 7;harm;");
        int[] about = {5, 4, 5, 1, 2, -9, 0, 1, 1, 0, -10000};
        for (int i = 0; i < about.length; i++) {
            due("about " + i, f.about(0, i), about[i]);
        }
        int[] winds = {-10000, 0, NO, NO, 5, NO, NO, NO, NO, -10000, -10000, NO, 7, NO, NO, NO, NO, -10000};
        for (int i = 0; i < winds.length; i++) {
            due("about " + (19 + i), f.about(0, 19 + i), winds[i]);
        }
        due("about of none", f.about(1, 0), -10000);
        due("about of -1", f.about(-1, 0), -10000);
        due("about -1", f.about(0, -1), -10000);
        int[] thing = {1, 3, 0, 2, 9, NO, 99, NO, -10000};
        int[] other = {2, 3, 2, 4, 20, 2, 1, NO, -10000};
        for (int i = 0; i < thing.length; i++) {
            due("thing 1, " + i, f.thing(0, 1, i), thing[i]);
            due("thing 4, " + i, f.thing(0, 4, i), other[i]);
        }
        due("thing 5", f.thing(0, 5, 0), -10000);
        due("thing -1", f.thing(0, -1, 0), -10000);
        due("thing of none", f.thing(1, 0, 0), -10000);
        due("thing, -1", f.thing(0, 0, -1), -10000);
        int[][] rules = {{0, 0, 1, 4, 0}, {3, 2, 2, 4, 1}, {1, 0, 2, 3, 0}, {2, 1, 1, 9, 0}, {NO, NO, NO, NO, NO}};
        for (int r = 0; r < rules.length; r++) {
            for (int i = 0; i < 5; i++) {
                due("ruled " + (10 + 10 * i + r), f.ruled(0, 10 + 10 * i + r), rules[r][i]);
            }
        }
        int[][] ways = {{4, 0, 0, NO, NO}, {0, 1, 1, 7, NO}};
        for (int l = 0; l < 2; l++) {
            for (int i = 0; i < 5; i++) {
                due("ruled " + l + ", " + i, f.ruled(l, i), ways[l][i]);
            }
        }
        due("ruled 60", f.ruled(0, 60), NO);
        due("ruled -1", f.ruled(0, -1), NO);
        due("ruled of none", f.ruled(2, 0), NO);
    }

    /** Promises 10 and 11. */
    private static void addedAndGone() {
        FarTown f = told("size 5 3;thing 0 0 0 0 10;");
        due("add", f.add(0, 5, 4, 2, 7, 999, 3), 1);
        int[] thing = {5, 4, 2, 7, 999, 3, 1, NO};
        for (int i = 0; i < thing.length; i++) {
            due("thing 1, " + i, f.thing(0, 1, i), thing[i]);
        }
        due("add where one is", f.add(0, 0, 4, 2, 0, 0, NO), NO);
        due("add kind 6", f.add(0, 6, 1, 1, 0, 0, NO), NO);
        due("add kind -1", f.add(0, -1, 1, 1, 0, 0, NO), NO);
        due("add x 5", f.add(0, 0, 5, 1, 0, 0, NO), NO);
        due("add y 3", f.add(0, 0, 1, 3, 0, 0, NO), NO);
        due("add x -1", f.add(0, 0, -1, 1, 0, 0, NO), NO);
        due("add house 8", f.add(0, 0, 1, 1, 8, 0, NO), NO);
        due("add day 1000", f.add(0, 0, 1, 1, 0, 1000, NO), NO);
        due("add day -1", f.add(0, 0, 1, 1, 0, -1, NO), NO);
        due("add faces 4", f.add(0, 0, 1, 1, 0, 0, 4), NO);
        due("add faces -2", f.add(0, 0, 1, 1, 0, 0, -2), NO);
        due("add in none", f.add(1, 0, 1, 1, 0, 0, NO), NO);
        due("gone on its day", f.gone(0, 0, 10), false);
        due("gone", f.gone(0, 0, 20), true);
        due("gone from", f.thing(0, 0, 7), 20);
        due("gone anew", f.gone(0, 0, 11), true);
        due("gone from", f.thing(0, 0, 7), 11);
        due("gone on 1000", f.gone(0, 0, 1000), false);
        due("gone, one since 999", f.gone(0, 1, 999), false);
        due("gone, no thing", f.gone(0, 2, 20), false);
        due("gone, thing -1", f.gone(0, -1, 20), false);
        due("gone, no town", f.gone(1, 0, 20), false);
        due("still from", f.thing(0, 0, 7), 11);
        due("add where one has been", f.add(0, 0, 0, 0, 0, 500, NO), NO);
        for (int i = 2; i < 12; i++) {
            due("add " + i, f.add(0, 0, i % 5, i < 5 ? 0 : 1 + (i - 5) / 5, 0, 0, NO), i);
        }
        due("a 13th", f.add(0, 0, 2, 2, 0, 0, NO), NO);
        due("things", f.about(0, 2), 12);
    }

    /** Promises 12 and 14. */
    private static void distances() {
        FarTown f = told(TOWN, LAW);
        due("apart 0 2", f.apart(0, 0, 2), 18);
        due("apart 2 0", f.apart(0, 2, 0), 18);
        due("apart 1 1", f.apart(0, 1, 1), 0);
        due("apart 0 5", f.apart(0, 0, 5), NO);
        due("apart -1 0", f.apart(0, -1, 0), NO);
        due("apart of none", f.apart(1, 0, 1), NO);
        due("grown ahead", f.grown(0, 1, 8), 0);
        due("grown on its day", f.grown(0, 1, 9), 0);
        due("grown 18", f.grown(0, 1, 18), 0);
        due("grown 19", f.grown(0, 1, 19), 1);
        due("grown 98", f.grown(0, 1, 98), 8);
        due("grown 99", f.grown(0, 1, 99), 9);
        due("grown 999", f.grown(0, 1, 999), 9);
        due("another kind", f.grown(0, 0, 999), 0);
        due("grown on 1000", f.grown(0, 1, 1000), NO);
        due("grown on -1", f.grown(0, 1, -1), NO);
        due("grown of none", f.grown(0, 5, 1), NO);
        due("grown in none", f.grown(1, 0, 1), NO);
    }

    /** Promise 13. */
    private static void crossings() {
        FarTown f = told(TOWN, LAW);
        due("not built", f.between(0, 0, 1, 29), 0);
        due("its end is on the way", f.between(0, 0, 1, 30), 1);
        due("the other way", f.between(0, 1, 0, 30), 1);
        due("beside the way", f.between(0, 1, 2, 30), 0);
        due("across", f.between(0, 3, 4, 999), 1);
        due("one", f.between(0, 1, 1, 30), NO);
        due("no thing", f.between(0, 1, 5, 30), NO);
        due("no day", f.between(0, 0, 1, 1000), NO);
        due("no town", f.between(1, 0, 1, 30), NO);
        FarTown g = told("size 8 8;thing 0 2 2 0 0;thing 0 5 5 0 0;wall 5 5 7 0 0;wall 3 3 4 4 0;wall 0 0 1 1 0;wall 6 6 7 7 0;"
            + "wall 2 4 4 2 0;wall 3 4 4 5 0;wall 0 4 3 4 0;wall 2 2 0 7 1;");
        due("on one straight, at an end, across", g.between(0, 0, 1, 0), 3);
        due("one more", g.between(0, 0, 1, 1), 4);
    }

    private static final int[][] DAY9 = {{0, 1, 0, 1, 1}, {0, 3, 2, 1, 0}, {1, 2, 3, 6, 2}};
    private static final int[][] DAY20 = {{0, 1, 0, 2, 1}, {0, 2, 0, 1, 2}, {0, 3, 2, 1, 0}, {1, 2, 3, 8, 2}, {3, 4, 1, 1, 4}};

    private static void checkBars(FarTown f, int law, int day, int[][] want) {
        due("bars on " + day, f.bars(0, law, day), want.length);
        for (int k = 0; k < want.length; k++) {
            for (int i = 0; i < want[k].length; i++) {
                due("bar " + k + " on " + day + ", " + i, f.bar(0, law, day, k, i), want[k][i]);
            }
        }
        due("no bar " + want.length, f.bar(0, law, day, want.length, 0), -10000);
        due("no bar -1", f.bar(0, law, day, -1, 0), -10000);
    }

    /** Promises 15, 16, 35. */
    private static void barsOfTheTown() {
        FarTown f = told(TOWN, LAW);
        checkBars(f, 0, 4, new int[][] {});
        checkBars(f, 0, 9, DAY9);
        checkBars(f, 0, 20, DAY20);
        due("bars behind the wall", f.bars(0, 0, 30), 4);
        due("by 0", f.by(0, 0, 20, 0), 2);
        due("by 1", f.by(0, 0, 20, 1), 1);
        due("by 1 behind the wall", f.by(0, 0, 30, 1), 0);
        due("by 4", f.by(0, 0, 20, 4), NO);
        due("by -1", f.by(0, 0, 20, -1), NO);
        due("by on no day", f.by(0, 0, 1000, 0), NO);
        due("bar, 5", f.bar(0, 0, 9, 0, 5), -10000);
        due("bar, -1", f.bar(0, 0, 9, 0, -1), -10000);
        due("bars on -1", f.bars(0, 0, -1), NO);
        due("bars on 1000", f.bars(0, 0, 1000), NO);
        due("bars of no town", f.bars(1, 0, 9), NO);
        due("bars by no law", f.bars(0, 1, 9), NO);
        due("bar by no law", f.bar(0, 1, 9, 0, 0), -10000);
        f.gone(0, 0, 20);
        due("bars without 0", f.bars(0, 0, 20), 2);
        due("bars with it still", f.bars(0, 0, 19), 4);
    }

    /** Promise 16: which one is the first one, with kinds that meet themselves. */
    private static void orderOfBars() {
        FarTown f = told("size 3 1;thing 0 0 0 0 0 faces 0;thing 0 2 0 0 0 faces 2;thing 1 1 0 0 0;wind 0 0;wind 1 4;slope down 1 up 0;",
            "wind 0 0 3;far 0 0 3;flow 0 0 3;face 0 0 3;far 1 0 2;far 0 1 2;", "far 0 0 2;wind 0 0 2;", "face 0 0 3;face 1 0 5;");
        checkBars(f, 0, 0, new int[][] {{0, 1, 0, 1, 1}, {0, 1, 1, 1, 1}, {0, 1, 2, 1, 1}, {0, 1, 3, 1, 1}, {0, 2, 5, 1, 2},
            {1, 0, 0, 1, 1}, {1, 2, 5, 1, 2}, {2, 0, 4, 1, 2}, {2, 1, 4, 1, 2}});
        checkBars(f, 1, 0, new int[][] {});
        checkBars(f, 2, 0, new int[][] {{0, 1, 0, 1, 1}});
        FarTown g = told("size 1 3;thing 0 0 0 0 0 faces 1;thing 0 0 2 0 0 faces 3;", "face 0 0 3;flow 0 0 9;");
        checkBars(g, 0, 0, new int[][] {{0, 1, 0, 1, 1}});
        FarTown h = told("size 1 3;thing 0 0 0 0 0 faces 1;thing 0 0 2 0 0 faces 1;", "face 0 0 3;");
        checkBars(h, 0, 0, new int[][] {});
    }

    /** Promises 15, 16, 27, 35: as many bars as there can be. */
    private static void mostBars() {
        FarTown f = told("size 4 3;wind 0 0;wind 1 2;wind 2 4;wind 3 6;", times(10, "wind 0 0 12;"));
        for (int i = 0; i < 12; i++) {
            f.add(0, 0, i % 4, i / 4, i % 8, 0, NO);
        }
        due("all of them", f.bars(0, 0, 0), 1320);
        due("by the last rule", f.by(0, 0, 0, 9), 132);
        int[] last = {11, 10, 9, 11, 11};
        for (int i = 0; i < last.length; i++) {
            due("the last one, " + i, f.bar(0, 0, 0, 1319, i), last[i]);
        }
        due("no further one", f.bar(0, 0, 0, 1320, 0), -10000);
        due("all but one", f.fewest(0, 0, 0, false), 2047);
        due("all but 0 go", f.goes(0, 0, 0), 4094);
        due("none by none", f.moved(0, 0, 0), NO);
    }

    /** Promises 17 and 18. */
    private static void goesAndPays() {
        FarTown f = told(TOWN, LAW, "far 0 1 3;harm;");
        due("goes on 9", f.goes(0, 0, 9), 7);
        due("goes on 20", f.goes(0, 0, 20), 23);
        due("goes on 4", f.goes(0, 0, 4), 0);
        due("goes on no day", f.goes(0, 0, 1000), NO);
        due("goes by no law", f.goes(0, 2, 9), NO);
        int[] pays = {0, 2, 7, 0, 0, 0, 0, 0, NO};
        for (int h = 0; h < pays.length; h++) {
            due("house " + h + " pays", f.pays(0, 0, 9, h), pays[h]);
        }
        due("house -1 pays", f.pays(0, 0, 9, -1), NO);
        due("pays in no town", f.pays(1, 0, 9, 1), NO);
        due("by harm none on 18", f.goes(0, 1, 18), 0);
        due("by harm the first one goes", f.goes(0, 1, 19), 1);
        due("the later one pays", f.pays(0, 1, 19, 2), 1);
        due("the one who goes does not", f.pays(0, 1, 19, 1), 0);
        FarTown g = told("size 3 1;thing 0 0 0 0 5;thing 0 1 0 1 5;thing 0 2 0 2 4;cost 0 10;cost 1 20;cost 2 40;", "far 0 0 2;", "far 0 0 2;harm;");
        due("of one day the greater goes", g.goes(0, 0, 5), 2);
        due("once", g.pays(0, 0, 5, 1), 20);
        due("by harm, goes", g.goes(0, 1, 5), 3);
        due("0 is paid for by the greater number, 1 by itself", g.pays(0, 1, 5, 1), 30);
        due("nothing of 2", g.pays(0, 1, 5, 2), 0);
    }

    /** Promises 16 and 17: leave and silence. */
    private static void leaveAndSilence() {
        FarTown f = told(TOWN + FENCES, "far 0 1 4 wall;leave;", "far 0 1 4 wall;silent 3;", "far 0 1 4 wall;harm;leave;silent 2;");
        due("leave by its day", f.bar(0, 0, 9, 0, 4), NO);
        due("nobody goes", f.goes(0, 0, 9), 0);
        due("a house's own asks for leave, too", f.goes(0, 0, 19), 4);
        due("not yet silent", f.bar(0, 1, 11, 0, 4), 1);
        due("it was objected on the last day", f.bar(0, 1, 12, 0, 4), 1);
        due("silence to the other one", f.goes(0, 1, 19), 2);
        due("by harm no leave to 1 helps 0", f.bar(0, 2, 10, 0, 4), 0);
        due("by harm 1 was silent to 0", f.bar(0, 2, 11, 0, 4), NO);
        String two = "size 2 1;thing 0 0 0 1 5;thing 0 1 0 2 9;";
        String silent = "far 0 0 2;silent 3;";
        due("objected on the first day", told(two + "object 0 1 9;", silent).goes(0, 0, 20), 2);
        due("objected too early", told(two + "object 0 1 8;", silent).goes(0, 0, 20), 0);
        due("objected too late", told(two + "object 0 1 13;", silent).goes(0, 0, 20), 0);
        due("objected by the wrong one", told(two + "object 1 0 9;", silent).goes(0, 0, 20), 0);
        due("objected by another thing of the house",
            told("size 2 2;thing 0 0 0 1 5;thing 0 1 0 2 9;thing 1 1 1 1 0;object 2 1 9;", silent).goes(0, 0, 20), 0);
        due("silence is past", told(two, silent).goes(0, 0, 12), 0);
        due("silence is not past", told(two, silent).goes(0, 0, 11), 2);
        due("no silence in the law", told(two, "far 0 0 2;").goes(0, 0, 999), 2);
        due("leave a day late", told(two + "leave 1 2 10;", "far 0 0 2;leave;").goes(0, 0, 20), 2);
        due("leave in time", told(two + "leave 1 2 0;", "far 0 0 2;leave;").goes(0, 0, 20), 0);
        due("leave the other way", told(two + "leave 2 1 0;", "far 0 0 2;leave;").goes(0, 0, 20), 2);
        due("no leave in the law", told(two + "leave 1 2 0;", "far 0 0 2;").goes(0, 0, 20), 2);
        due("pays nothing by leave", told(two + "leave 1 2 0;", "far 0 0 2;leave;").pays(0, 0, 20, 2), 0);
    }

    /** Promises 19 and 36. */
    private static void firstDays() {
        FarTown f = told(TOWN, LAW, "far 5 5 1;", "face 2 2 4 wall;");
        due("first 0 1", f.first(0, 0, 0, 1), 9);
        due("first 2 0", f.first(0, 0, 2, 0), 19);
        due("first 4 3", f.first(0, 0, 4, 3), 20);
        due("first 0 4", f.first(0, 0, 0, 4), NO);
        due("first 1 1", f.first(0, 0, 1, 1), NO);
        due("first 0 5", f.first(0, 0, 0, 5), NO);
        due("first -1 0", f.first(0, 0, -1, 0), NO);
        due("first by no law", f.first(0, 3, 0, 1), NO);
        due("first in no town", f.first(1, 0, 0, 1), NO);
        due("days", f.days(0, 0, false), 995);
        due("the first one", f.days(0, 0, true), 5);
        due("days, none", f.days(0, 1, false), 0);
        due("the first, none", f.days(0, 1, true), NO);
        due("days until the wall", f.days(0, 2, false), 10);
        due("days by no law", f.days(0, 3, false), NO);
        due("days of no town", f.days(1, 0, true), NO);
        f.gone(0, 3, 25);
        due("days until it goes", f.days(0, 2, false), 5);
        FarTown g = told("size 2 1;thing 0 0 0 0 0;thing 0 1 0 0 999;", "far 0 0 2;");
        due("the last day alone", g.days(0, 0, false), 1);
        due("the last day", g.days(0, 0, true), 999);
        due("the first one is the last", g.first(0, 0, 0, 1), 999);
        FarTown h = told("size 8 1;thing 0 0 0 0 0;thing 0 7 0 0 3;grow 0 99;", "far 0 0 1;");
        due("grown together", h.first(0, 0, 0, 1), 396);
    }

    /** Promises 20, 21, 22. */
    private static void spots() {
        FarTown f = told("size 3 2;thing 0 0 0 0 5;thing 1 2 1 0 9 faces 3;wall 1 0 1 1 7;grow 0 1;",
            "far 0 2 2;far 2 1 2 wall;", "face 2 1 2;", "flow 2 2 1;");
        due("spots on 4", f.spots(0, 0, 4, 2, NO), 6);
        due("spots on 5", f.spots(0, 0, 5, 2, NO), 2);
        due("spot 0 on 5", f.spot(0, 0, 5, 2, NO, 0), 2);
        due("spot 1 on 5", f.spot(0, 0, 5, 2, NO, 1), 10);
        due("spots grow fewer", f.spots(0, 0, 6, 2, NO), 0);
        due("spot on 6", f.spot(0, 0, 6, 2, NO, 0), NO);
        due("another kind", f.spots(0, 0, 9, 3, NO), 4);
        for (int k = 0; k < 5; k++) {
            due("spot " + k, f.spot(0, 0, 9, 3, 2, k), new int[] {1, 2, 8, 9, NO}[k]);
        }
        due("spot -1", f.spot(0, 0, 9, 3, NO, -1), NO);
        due("facing it", f.may(0, 1, 9, 2, 2, 0, 1), false);
        due("facing away", f.may(0, 1, 9, 2, 2, 0, 2), true);
        due("not facing", f.may(0, 1, 9, 2, 2, 0, NO), true);
        due("where one stands", f.may(0, 1, 5, 2, 0, 0, NO), false);
        due("where one will stand", f.may(0, 1, 5, 2, 2, 1, NO), true);
        f.gone(0, 0, 6);
        due("where one has stood", f.may(0, 1, 6, 2, 0, 0, NO), true);
        due("behind the wall", f.may(0, 0, 9, 2, 1, 1, NO), true);
        due("nobody's wall", f.may(0, 0, 9, 2, 2, 0, NO), false);
        due("x 3", f.may(0, 1, 9, 2, 3, 0, NO), false);
        due("y 2", f.may(0, 1, 9, 2, 0, 2, NO), false);
        due("x -1", f.may(0, 1, 9, 2, -1, -1, NO), false);
        due("kind 6", f.may(0, 1, 9, 6, 1, 0, NO), false);
        due("faces 4", f.may(0, 1, 9, 2, 1, 0, 4), false);
        due("faces -2", f.may(0, 1, 9, 2, 1, 0, -2), false);
        due("day 1000", f.may(0, 1, 1000, 2, 1, 0, NO), false);
        due("no law", f.may(0, 3, 9, 2, 1, 0, NO), false);
        due("no town", f.may(1, 0, 9, 2, 1, 0, NO), false);
        due("spots of kind 6", f.spots(0, 0, 9, 6, NO), NO);
        due("spots facing 4", f.spots(0, 0, 9, 2, 4), NO);
        due("spots in no town", f.spots(1, 0, 9, 2, NO), NO);
        due("spots on no day", f.spots(0, 0, -1, 2, NO), NO);
        due("spot of no law", f.spot(0, 3, 9, 2, NO, 0), NO);
        due("spot of kind 6", f.spot(0, 1, 9, 6, NO, 0), NO);
        due("spot of kind -1", f.spot(0, 1, 9, -1, NO, 0), NO);
        due("spot facing 4", f.spot(0, 1, 9, 2, 4, 0), NO);
        due("spot on no day", f.spot(0, 1, 1000, 2, NO, 0), NO);
    }

    /** Promises 23, 24, 25. */
    private static void plans() {
        FarTown f = told("size 3 3;thing 0 0 0 0 5;thing 2 2 2 0 5;", "far 0 0 2;far 0 1 2;", "", "far 0 0 4;");
        due("no wish", f.plan(0, 0, 5, false, 0), NO);
        due("nothing to forget", f.forget(0), false);
        due("wish", f.wish(0, 1, NO), 1);
        due("wish", f.wish(0, 0, 3), 2);
        due("wish of kind 6", f.wish(0, 6, NO), NO);
        due("wish facing 4", f.wish(0, 1, 4), NO);
        due("wish facing -2", f.wish(0, 1, -2), NO);
        due("wish in no town", f.wish(1, 1, NO), NO);
        due("wish", f.wish(0, 0, NO), 3);
        due("a fourth wish", f.wish(0, 0, NO), NO);
        due("wishes", f.about(0, 9), 3);
        due("no plan", f.plan(0, 0, 5, false, 0), NO);
        int[] bare = {0, 2, 16, NO};
        for (int k = 0; k < 4; k++) {
            due("bare " + k, f.plan(0, 0, 5, true, k), bare[k]);
            due("ahead of the things " + k, f.plan(0, 0, 4, false, k), bare[k]);
        }
        due("bare -1", f.plan(0, 0, 5, true, -1), NO);
        int[] free = {1, 2, 8, NO};
        for (int k = 0; k < 4; k++) {
            due("without rules " + k, f.plan(0, 1, 5, false, k), free[k]);
        }
        due("too far", f.plan(0, 2, 5, true, 0), NO);
        due("no law", f.plan(0, 3, 5, true, 0), NO);
        due("no day", f.plan(0, 0, 1000, true, 0), NO);
        due("no town", f.plan(1, 0, 5, true, 0), NO);
        due("forget", f.forget(0), true);
        due("forget again", f.forget(0), false);
        due("forget in no town", f.forget(1), false);
        due("wishes", f.about(0, 9), 0);
        due("wish", f.wish(0, 0, NO), 1);
        due("one alone", f.plan(0, 0, 5, false, 0), 2);
        due("wish", f.wish(0, 0, NO), 2);
        due("two: the first", f.plan(0, 0, 5, false, 0), 2);
        due("two: the second", f.plan(0, 0, 5, false, 1), 16);
        FarTown g = told("size 2 1;thing 0 0 0 0 0;wall 0 0 1 0 3;", "far 0 0 9 wall;");
        g.wish(0, 0, NO);
        due("no wall yet", g.plan(0, 0, 2, false, 0), NO);
        due("a wall", g.plan(0, 0, 3, false, 0), 1);
        g.wish(0, 0, NO);
        due("bare with its wall", g.plan(0, 0, 3, true, 1), 1);
        due("bare without", g.plan(0, 0, 2, true, 1), NO);
        facedPlans();
    }

    private static void facedPlans() {
        FarTown f = told("size 3 1;thing 1 2 0 0 5 faces 2;", "face 0 1 3;face 0 0 3;", "face 0 1 2;");
        f.wish(0, 0, 0);
        due("it would face it", f.plan(0, 0, 5, false, 0), NO);
        due("it would face it from afar", f.plan(0, 1, 5, false, 0), 0);
        due("nothing to face", f.plan(0, 0, 4, false, 0), 0);
        f.forget(0);
        f.wish(0, 0, 1);
        due("it faces another way", f.plan(0, 0, 5, false, 0), 0);
        f.wish(0, 0, NO);
        due("the other does not face", f.plan(0, 0, 5, false, 1), 1);
        f.forget(0);
        f.wish(0, 0, 0);
        f.wish(0, 0, 2);
        due("they would face one another: the first", f.plan(0, 0, 5, true, 0), 1);
        due("they look away: the second", f.plan(0, 0, 5, true, 1), 0);
    }

    /** Promise 26. */
    private static void blames() {
        FarTown f = told("size 2 2;thing 0 0 0 0 0;thing 0 1 0 0 0;thing 0 0 1 0 0;thing 0 1 1 0 0;", "far 0 0 3;far 1 1 2;",
            "far 1 1 2;far 0 0 3;far 1 1 3;", "");
        due("no wishes", f.blame(0, 0, 0), NO);
        f.wish(0, 0, NO);
        f.wish(0, 0, NO);
        due("kind 0 twice", f.blame(0, 0, 0), 0);
        due("kind 0 twice, the other law", f.blame(0, 1, 0), 1);
        due("no rules", f.blame(0, 2, 0), NO);
        due("no law", f.blame(0, 3, 0), NO);
        due("no town", f.blame(1, 0, 0), NO);
        due("no day", f.blame(0, 0, 1000), NO);
        f.forget(0);
        f.wish(0, 1, NO);
        f.wish(0, 1, NO);
        due("kind 1 twice", f.blame(0, 0, 0), 1);
        due("kind 1 twice, by two rules", f.blame(0, 1, 0), NO);
        f.forget(0);
        f.wish(0, 0, NO);
        f.wish(0, 1, NO);
        due("one of each", f.blame(0, 0, 0), NO);
        due("though there is no plan among the things", f.plan(0, 0, 0, false, 0), NO);
    }

    /** Promise 27. */
    private static void fewest() {
        FarTown f = told("size 3 3;thing 0 1 1 0 0;thing 1 0 0 0 0;thing 1 2 0 0 0;thing 1 0 2 0 3;cost 0 9;cost 1 2;cost 2 0;", "far 0 1 2;", "");
        due("the one in the middle", f.fewest(0, 0, 0, false), 1);
        due("the cheap ones", f.fewest(0, 0, 0, true), 6);
        due("on 3, cheap", f.fewest(0, 0, 3, true), 14);
        due("none", f.fewest(0, 1, 3, false), 0);
        due("none, cheap", f.fewest(0, 1, 3, true), 0);
        due("no law", f.fewest(0, 2, 3, false), NO);
        due("no town", f.fewest(1, 0, 3, false), NO);
        due("no day", f.fewest(0, 0, 1000, true), NO);
        FarTown g = told("size 4 1;thing 0 0 0 0 0;thing 0 1 0 0 0;thing 0 2 0 0 0;thing 0 3 0 0 0;cost 1 0;cost 2 0;cost 0 0;", "far 0 0 2;", "far 0 0 3;");
        due("the least row", g.fewest(0, 0, 0, false), 5);
        due("of the cheap the fewest", g.fewest(0, 0, 0, true), 5);
        due("wider", g.fewest(0, 1, 0, false), 3 * 2);
        due("wider, cheap", g.fewest(0, 1, 0, true), 6);
        FarTown h = told("size 2 2;thing 0 0 0 0 0;thing 1 1 0 0 0;thing 1 0 1 0 0;thing 0 1 1 0 0;", "far 0 1 2;");
        due("0 and 3, not 1 and 2", h.fewest(0, 0, 0, false), 9);
    }

    /** Promise 28. */
    private static void fences() {
        FarTown f = told(TOWN + FENCES, "far 0 1 4 wall;", "far 0 1 4;", "");
        due("one fence", f.fenced(0, 0, 9), 2);
        due("both", f.fenced(0, 0, 19), 3);
        due("the wall does it", f.fenced(0, 0, 30), 0);
        due("none helps", f.fenced(0, 1, 9), NO);
        due("no bars", f.fenced(0, 1, 4), 0);
        due("no rules", f.fenced(0, 2, 9), 0);
        due("no law", f.fenced(0, 3, 9), NO);
        due("no town", f.fenced(1, 0, 9), NO);
        due("no day", f.fenced(0, 0, 1000), NO);
        FarTown g = told("size 3 3;thing 0 0 0 0 0;thing 1 2 0 0 0;thing 1 0 2 0 0;fence 2 2 1 2;fence 1 0 1 1;fence 0 1 1 1;fence 1 0 2 1;fence 0 1 1 0;",
            "far 0 1 3 wall;");
        due("one for both", g.fenced(0, 0, 0), 16);
        FarTown h = told("size 3 3;thing 0 0 0 0 0;thing 1 2 0 0 0;thing 1 0 2 0 0;fence 2 2 1 2;fence 1 0 1 1;fence 1 0 2 1;fence 0 1 1 1;fence 0 1 1 2;",
            "far 0 1 3 wall;");
        due("of several the least row", h.fenced(0, 0, 0), 10);
        FarTown i = told("size 3 3;thing 0 0 0 0 0;thing 1 2 0 0 0;fence 2 2 1 2;", "far 0 1 3 wall;");
        due("not by all", i.fenced(0, 0, 0), NO);
    }

    /** Promise 29. */
    private static void winds() {
        FarTown f = told(TOWN, LAW);
        due("smells 0 3", f.smells(0, 0, 3), 1);
        due("smells 0 1", f.smells(0, 0, 1), 1);
        due("smells 0 4", f.smells(0, 0, 4), 1);
        due("smells 0 2", f.smells(0, 0, 2), 2);
        due("smells 3 0", f.smells(0, 3, 0), 0);
        due("smells itself", f.smells(0, 1, 1), NO);
        due("smells none", f.smells(0, 1, 5), NO);
        due("smells in no town", f.smells(1, 0, 1), NO);
        int[][] to = {{2, 1}, {2, 2}, {1, 2}, {0, 2}, {0, 1}, {0, 0}, {1, 0}, {2, 0}};
        for (int w = 0; w < 8; w++) {
            FarTown g = told("size 3 3;thing 0 1 1 0 0;wind 5 " + w + ";");
            for (int i = 0; i < 8; i++) {
                g.add(0, 1, to[i][0], to[i][1], 0, 0, NO);
            }
            for (int i = 0; i < 8; i++) {
                int turn = Math.abs(w - i) % 8;
                due("toward " + w + " at " + i, g.smells(0, 0, i + 1), turn <= 1 || turn == 7 ? 1 : 0);
            }
        }
    }

    /** Promise 30. */
    private static void beside() {
        FarTown f = told(TOWN, LAW, "far 0 1 4;flow 1 1 9;far 1 1 9;", "");
        due("beside 0 1", f.beside(0, 0, 1, 20), 2);
        due("beside 1 0", f.beside(0, 1, 0, 20), 2);
        due("beside 0 2", f.beside(0, 0, 2, 20), 5);
        due("beside 0 0", f.beside(0, 0, 0, 20), 0);
        due("beside 0 3", f.beside(0, 0, 3, 20), NO);
        due("beside 3 0", f.beside(0, 3, 0, 20), NO);
        due("beside on no day", f.beside(0, 0, 1, 1000), NO);
        due("beside in no town", f.beside(1, 0, 1, 20), NO);
    }

    /** Promises 31 and 32. */
    private static void moved() {
        FarTown f = told("size 4 1;thing 0 0 0 0 0;thing 0 1 0 0 0;", "far 0 0 2;", "far 0 0 4;", "far 0 0 1;");
        due("one moves", f.moved(0, 0, 0), 1);
        due("to there", f.movedTo(0, 0, 0, 0), 3);
        due("no other", f.movedTo(0, 0, 0, 1), NO);
        due("no -1", f.movedTo(0, 0, 0, -1), NO);
        due("not by two", f.moved(0, 1, 0), NO);
        due("to nowhere", f.movedTo(0, 1, 0, 0), NO);
        due("no bars", f.moved(0, 2, 0), 0);
        due("none moves", f.movedTo(0, 2, 0, 0), NO);
        due("no law", f.moved(0, 3, 0), NO);
        due("no town", f.moved(1, 0, 0), NO);
        due("no day", f.movedTo(0, 0, 1000, 0), NO);
        due("to by no law", f.movedTo(0, 3, 0, 0), NO);
        due("to in no town", f.movedTo(1, 0, 0, 0), NO);
        // No point is free: 1 must go to where 2 stands, and 2 to where 1 stood.
        FarTown g = told("size 3 1;thing 0 0 0 0 0;thing 0 1 0 0 0;thing 1 2 0 0 0;", "far 0 0 2;");
        due("two move", g.moved(0, 0, 0), 6);
        due("1 to", g.movedTo(0, 0, 0, 0), 2);
        due("2 to", g.movedTo(0, 0, 0, 1), 1);
        due("no third", g.movedTo(0, 0, 0, 2), NO);
        // They change places: the rule looks down the slope.
        FarTown h = told("size 2 1;thing 0 0 0 0 0;thing 1 1 0 0 0;slope down 1 up 0;", "flow 0 1 5;");
        due("they change places", h.moved(0, 0, 0), 3);
        due("0 to 1", h.movedTo(0, 0, 0, 0), 1);
        due("1 to 0", h.movedTo(0, 0, 0, 1), 0);
        // Whoever moves is there since that day, and small again; who has gone leaves a free point.
        FarTown i = told("size 4 1;thing 0 0 0 0 0;thing 0 1 0 0 0;thing 1 3 0 0 0;grow 0 5;", "far 0 0 2;");
        i.gone(0, 2, 5);
        due("0 can't, 1 can", i.moved(0, 0, 5), 2);
        due("1 to 3", i.movedTo(0, 0, 5, 0), 3);
        due("a day earlier", i.moved(0, 0, 4), 2);
        due("1 to 2 then", i.movedTo(0, 0, 4, 0), 2);
        FarTown j = told("size 5 1;thing 0 0 0 0 0;thing 0 1 0 0 0;grow 0 5;", "far 0 0 2;");
        due("one, against a grown one", j.moved(0, 0, 9), 1);
        due("0 to 4", j.movedTo(0, 0, 9, 0), 4);
    }

    /** Promises 33 and 34. */
    private static void quietAndRoom() {
        FarTown f = told("size 3 3;thing 0 0 0 0 0;thing 1 2 1 0 0;wind 0 0;wind 1 1;wind 2 4;", "wind 0 1 9;", "far 0 1 2;", "far 0 1 9;wind 1 0 2;");
        due("quiet", f.quiet(0, 0, 0), 252);
        due("no rule wind", f.quiet(0, 1, 0), 255);
        due("no rule wind that bars", f.quiet(0, 2, 0), 255);
        due("quiet by no law", f.quiet(0, 3, 0), NO);
        due("quiet on no day", f.quiet(0, 0, 1000), NO);
        due("quiet in no town", f.quiet(1, 0, 0), NO);
        due("no room", f.room(0, 0, 0), NO);
        due("room to the square root of 5", f.room(0, 1, 0), 0);
        due("room by no law", f.room(0, 3, 0), NO);
        due("room on no day", f.room(0, 0, 1000), NO);
        due("room in no town", f.room(1, 0, 0), NO);
        FarTown g = told("size 8 8;thing 0 0 0 0 0;thing 1 7 7 0 0;thing 2 7 0 0 1;", "far 0 1 2;", "far 0 2 2;far 0 1 3;", "face 0 1 2;");
        due("room", g.room(0, 0, 0), 7);
        due("the narrowest of both", g.room(0, 1, 1), 5);
        due("the other one is not there", g.room(0, 1, 0), 6);
        due("all the room", g.room(0, 2, 0), 12);
        FarTown h = told("size 8 8;thing 0 0 0 0 0;thing 1 7 7 0 0;thing 0 7 1 0 0;grow 0 1;", "far 1 0 1;far 0 5 12;", "far 0 2 1;");
        due("grown by 1, 6 apart", h.room(0, 0, 1), 4);
        due("nobody of that kind", h.room(0, 1, 1), 12);
        FarTown i = told("size 8 8;thing 0 0 0 0 0;thing 1 7 7 0 0;thing 1 7 0 0 0;thing 2 7 6 0 0;wind 0 1;", "wind 0 1 1;flow 0 1 1;");
        due("9.9 apart downwind, the one beside lies downwind too", i.room(0, 0, 0), 6);
        FarTown j = told("size 8 8;thing 0 0 0 0 0;thing 0 7 7 0 0;grow 0 99;", "far 0 0 1;");
        due("not to 10", j.room(0, 0, 0), 8);
        due("grown by 2, not to 10", j.room(0, 0, 99), 6);
        due("grown by 8, not to 10", j.room(0, 0, 396), 0);
        due("grown by 10", j.room(0, 0, 495), NO);
    }

    /** Promise 37. */
    private static void feuds() {
        FarTown f = told("size 3 3;thing 0 0 0 1 0;thing 0 1 0 2 0;thing 0 0 1 1 0;thing 1 1 1 2 0;", "far 0 0 2;far 0 0 2;far 0 1 2;");
        due("1 against 2", f.feud(0, 0, 0, 1, 2), 6);
        due("2 against 1", f.feud(0, 0, 0, 2, 1), 6);
        due("1 against itself", f.feud(0, 0, 0, 1, 1), 2);
        due("2 against itself", f.feud(0, 0, 0, 2, 2), 1);
        due("0 against 1", f.feud(0, 0, 0, 0, 1), 0);
        due("house 8", f.feud(0, 0, 0, 8, 1), NO);
        due("house -1", f.feud(0, 0, 0, 1, -1), NO);
        due("no day", f.feud(0, 0, 1000, 1, 2), NO);
        due("no law", f.feud(0, 1, 0, 1, 2), NO);
        due("no town", f.feud(1, 0, 0, 1, 2), NO);
    }

    /** Promises 39 and 40. */
    private static void images() {
        FarTown f = told("size 2 2;thing 0 0 0 0 0;", "harm;");
        due("image -1", f.image(-1), false);
        due("image 3", f.image(3), false);
        due("again 1", f.again(1), false);
        due("again -1", f.again(-1), false);
        due("again 3", f.again(3), false);
        f.wish(0, 1, 2);
        f.gone(0, 0, 9);
        due("a fault", Checks.law(f, "far"), NO);
        Checks.tell(f, 0, "later;");
        due("image 0", f.image(0), true);
        due("law", f.law(0), 0);
        f.add(0, 1, 1, 1, 1, 1, 1);
        f.forget(0);
        f.gone(0, 0, 8);
        Checks.town(f, "size 7 7;");
        Checks.tell(f, 0, "xxxxxxxx");
        due("image 2", f.image(2), true);
        due("again 0", f.again(0), true);
        due("towns", f.count(0), 1);
        due("things", f.about(0, 2), 1);
        due("wishes", f.about(0, 9), 1);
        due("gone", f.thing(0, 0, 7), 9);
        due("harm", f.ruled(0, 1), 1);
        due("fault", f.fault(0), 1);
        due("place", f.fault(1), 3);
        due("the tape's length", f.end(7), NO);
        due("the tape", f.law(NO), 1);
        due("later", f.ruled(1, 1), 0);
        due("again 0, once more", f.again(0), true);
        due("laws", f.count(1), 1);
        due("again 2", f.again(2), true);
        due("towns", f.count(0), 2);
        due("its width", f.about(1, 0), 7);
        due("its tape", f.end(8), 8);
        due("again 1", f.again(1), false);
        due("image 0 anew", f.image(0), true);
        f.end(0);
        due("again 0", f.again(0), true);
        due("towns of the new one", f.count(0), 2);
        due("the tape of the new one", f.end(8), 8);
    }
}
