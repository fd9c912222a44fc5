/** What an earlier text, cut or question must not leave behind for a later one. */
final class CarryEdges extends Edges {
    private static final String T = "Terms 1";
    private static final String FULL_TOWN = "size 8 8;thing 5 0 0 7 999 faces 3;thing 5 1 0 7 999;wall 0 0 1 1 999;fence 0 0 1 1;wind 0 7;wind 7 7;"
        + "slope down 9 down 9;leave 7 7 999;object 0 1 999;cost 0 99;cost 1 99;grow 0 99;grow 5 99;";
    private static final String FULL_LAW = "far 5 5 12 wall;face 5 5 12 wall;harm;leave;silent 99;";

    CarryEdges(Sentences s) {
        super(s);
    }

    @Override
    void play() {
        texts();
        faultyTexts();
        cuts();
        images();
        questions();
    }

    private void bareTown(FarTown f, int at) {
        for (int what = 2; what < 10; what++) {
            s.due("town " + at + ", " + what, f.about(at, what), 0);
        }
        for (int hour = 0; hour < 8; hour++) {
            s.due("hour " + hour, f.about(at, 20 + hour), NO);
        }
        for (int kind = 0; kind < 6; kind++) {
            s.due("kind " + kind, f.about(at, 30 + kind), NO);
        }
        s.due("a thing in it", f.add(at, 5, 0, 0, 7, 0, NO), 0);
        s.due("its cost", f.thing(at, 0, 6), 1);
        s.due("it faces", f.thing(at, 0, 5), NO);
        s.due("it is gone from", f.thing(at, 0, 7), NO);
        s.due("it has grown by", f.grown(at, 0, 999), 0);
    }

    private void bareLaw(FarTown f, int at) {
        s.due("rules", f.ruled(at, 0), 0);
        s.due("by harm", f.ruled(at, 1), 0);
        s.due("leave", f.ruled(at, 2), 0);
        s.due("silence", f.ruled(at, 3), NO);
    }

    private void texts() {
        s.of(T, "in each the WIND blows (or not, as at first)", () -> {
            FarTown f = told(FULL_TOWN);
            s.due("a bare town behind it", Checks.town(f, "size 1 1;"), 1);
            bareTown(f, 1);
            Checks.tell(f, 0, "size 1 1;");
            s.due("in its place", f.town(0), 0);
            bareTown(f, 0);
        });
        s.of(T, "SLOPE a, b, -9 .. 9 (0 at first)", () -> {
            FarTown f = told(FULL_TOWN);
            s.due("a", f.about(0, 5), -9);
            s.due("a town without one behind it", Checks.town(f, "size 2 2;wind 0 0;"), 1);
            s.due("its a", f.about(1, 5), 0);
            s.due("its b", f.about(1, 6), 0);
        });
        s.of(T, "COST of a THING: 0 .. 99 (1 at first).", () -> {
            FarTown f = told(FULL_TOWN);
            s.due("a town with the same things, of no cost told", Checks.town(f, "size 8 8;thing 5 0 0 7 999;thing 5 1 0 7 999;"), 1);
            s.due("cost of 0", f.thing(1, 0, 6), 1);
            s.due("cost of 1", f.thing(1, 1, 6), 1);
            s.due("0 faces", f.thing(1, 0, 5), NO);
        });
        s.of(T, "later or harm, the last one told (later at first).", () -> {
            FarTown f = told("size 1 1;", FULL_LAW, "");
            bareLaw(f, 1);
            Checks.tell(f, 0, "");
            s.due("in its place", f.law(0), 0);
            bareLaw(f, 0);
            s.due("a rule behind one with wall", Checks.law(f, "far 0 0 1;"), 2);
            s.due("is without", f.ruled(2, 50), 0);
        });
    }

    private void faultyTexts() {
        s.of(T, "FAULTS of both, with places (a token's first byte; the end's)", () -> {
            String[] bad = {FULL_TOWN + "!", FULL_TOWN + "wind 8 8;", "size 8 8;thing 9999 9999 9999 9999 9999 faces 9999;", "size 9999 9999;"};
            for (String text : bad) {
                FarTown f = new FarTown();
                s.due(text, Checks.town(f, text), NO);
                s.due("a bare town then", Checks.town(f, "size 1 1;"), 0);
                s.due("no fault", f.fault(0), 0);
                s.due("no place", f.fault(1), NO);
                bareTown(f, 0);
                s.due(text, Checks.town(f, text), NO);
                s.due("a full one then", Checks.town(f, "size 2 2;fence 0 0 1 1;wall 0 0 1 1 0;wind 0 0;slope up 1 up 1;leave 0 0 0;grow 0 1;"), 1);
                s.due("no fault, either", f.fault(0), 0);
            }
            for (String text : new String[] {FULL_LAW + "!", FULL_LAW + "silent 0;", "far 9999 9999 9999;", "silent 9999;"}) {
                FarTown f = new FarTown();
                s.due(text, Checks.law(f, text), NO);
                s.due("a bare law then", Checks.law(f, ""), 0);
                bareLaw(f, 0);
                s.due("no fault", f.fault(0), 0);
            }
        });
    }

    /** The tape's text is cut within its last token, whose further bytes were there. */
    private void cut(boolean town, String text, int n, int place) {
        FarTown f = new FarTown();
        Checks.tell(f, 0, text);
        s.due("cut", f.end(n), n);
        s.due(text + " cut at " + n, town ? f.town(NO) : f.law(NO), NO);
        s.due("fault", f.fault(0), 1);
        s.due("place", f.fault(1), place);
    }

    private void cuts() {
        s.of("Promise 3", "The tape has its first n bytes alone: n.", () -> {
            cut(false, "far 0 0 12;", 9, 9);
            cut(false, "far 0 0 12345;", 12, 12);
            cut(false, "far 0 0 1 walls;", 14, 14);
            cut(false, "far 0 0 1 wall;", 13, 10);
            cut(false, "later;", 5, 5);
            cut(false, "later   ;", 6, 6);
            cut(true, "size 1 1;", 8, 8);
            cut(true, "size 1 10;", 8, 8);
            FarTown f = new FarTown();
            Checks.tell(f, 0, "harm;later;");
            s.due("cut behind a rule", f.end(5), 5);
            s.due("a law", f.law(NO), 0);
            s.due("of its first bytes", f.ruled(0, 1), 1);
        });
        s.of("Promise 4", "The tape is taken (and is empty then)", () -> {
            FarTown f = new FarTown();
            s.due("a long text", Checks.town(f, FULL_TOWN), 0);
            s.due("nothing behind it", f.town(NO), NO);
            s.due("fault 1", f.fault(0), 1);
            s.due("at the end of nothing", f.fault(1), 0);
            s.due("a short text", Checks.town(f, "size 1 1;"), 1);
            s.due("nothing of the long one", f.about(1, 2), 0);
        });
    }

    private void images() {
        s.of("Promise 40", "All that is as image k has it: true;", () -> {
            FarTown f = new FarTown();
            Checks.tell(f, 0, "harm;");
            s.due("image", f.image(0), true);
            s.due("cut", f.end(0), 0);
            Checks.tell(f, 0, "!!!!!!!!!!!!!!!!!!!!");
            s.due("image of other bytes", f.image(1), true);
            s.due("again", f.again(0), true);
            s.due("as long as it was", f.end(6), NO);
            s.due("the bytes that it had", f.law(NO), 0);
            s.due("harm", f.ruled(0, 1), 1);
            s.due("again", f.again(1), true);
            s.due("no law yet", f.count(1), 0);
            s.due("the other bytes", f.law(NO), NO);
            FarTown g = told(FULL_TOWN, FULL_LAW);
            s.due("image", g.image(2), true);
            Checks.tell(g, 0, "size 1 1;");
            s.due("another town", g.town(0), 0);
            Checks.tell(g, 0, "");
            s.due("another law", g.law(0), 0);
            s.due("again", g.again(2), true);
            int[] want = {8, 8, 2, 1, 1, -9, -9, 1, 1, 0};
            for (int what = 0; what < want.length; what++) {
                s.due("town, " + what, g.about(0, what), want[what]);
            }
            s.due("wind", g.about(0, 27), 7);
            s.due("grow", g.about(0, 35), 99);
            s.due("cost", g.thing(0, 1, 6), 99);
            s.due("faces", g.thing(0, 0, 5), 3);
            int[] ruled = {2, 1, 1, 99};
            for (int what = 0; what < ruled.length; what++) {
                s.due("law, " + what, g.ruled(0, what), ruled[what]);
            }
            s.due("sort", g.ruled(0, 11), 3);
            s.due("wall", g.ruled(0, 51), 1);
        });
    }

    private void questions() {
        String town = "size 8 1;thing 0 0 0 0 0;thing 1 3 0 0 0;wind 0 0;grow 1 99;";
        s.of("Promise 34", "ROOM.", () -> {
            FarTown f = told(town, "far 0 1 2;");
            s.due("room", f.room(0, 0, 0), 1);
            s.due("it is only thought of: bars", f.bars(0, 0, 0), 0);
            s.due("spots", f.spots(0, 0, 0, 1, NO), 5);
            s.due("room again", f.room(0, 0, 0), 1);
            s.due("days", f.days(0, 0, true), 198);
            s.due("room", f.room(0, 0, 0), 1);
            s.due("first", f.first(0, 0, 0, 1), 198);
            s.due("room", f.room(0, 0, 0), 1);
            s.due("moved", f.moved(0, 0, 0), 0);
        });
        s.of("Promise 33", "QUIET (bits).", () -> {
            FarTown f = told(town, "wind 0 1 4;");
            s.due("quiet", f.quiet(0, 0, 0), 254);
            s.due("it is only thought of: bars", f.bars(0, 0, 0), 1);
            s.due("smells", f.smells(0, 0, 1), 1);
            s.due("quiet again", f.quiet(0, 0, 0), 254);
        });
        s.of("Promise 26", "BLAME.", () -> {
            FarTown f = told("size 2 1;thing 0 0 0 0 0;thing 0 1 0 0 0;", "far 0 0 2;");
            f.wish(0, 0, NO);
            f.wish(0, 0, NO);
            s.due("blame", f.blame(0, 0, 0), 0);
            s.due("it is only thought of: bars", f.bars(0, 0, 0), 1);
            s.due("no plan", f.plan(0, 0, 0, true, 0), NO);
            s.due("blame again", f.blame(0, 0, 0), 0);
        });
        s.of("Promise 28", "FENCED (bits).", () -> {
            FarTown f = told("size 3 1;thing 0 0 0 0 0;thing 0 2 0 0 0;fence 1 0 2 0;", "far 0 0 3 wall;", "far 0 0 3;");
            s.due("fenced", f.fenced(0, 0, 0), 1);
            s.due("it is only thought of: bars", f.bars(0, 0, 0), 1);
            s.due("no wall", f.between(0, 0, 1, 0), 0);
            s.due("by another law", f.fenced(0, 1, 0), NO);
            s.due("fenced again", f.fenced(0, 0, 0), 1);
        });
        s.of("Promise 31", "MOVED (bits).", () -> {
            FarTown f = told("size 4 1;thing 0 0 0 0 0;thing 0 1 0 0 0;", "far 0 0 2;", "far 0 0 1;");
            s.due("moved", f.moved(0, 0, 0), 1);
            s.due("it is only thought of: x", f.thing(0, 0, 1), 0);
            s.due("bars", f.bars(0, 0, 0), 1);
            s.due("none by another law", f.moved(0, 1, 0), 0);
            s.due("nowhere by another law", f.movedTo(0, 1, 0, 0), NO);
            s.due("fewest", f.fewest(0, 0, 0, false), 1);
            s.due("moved again", f.moved(0, 0, 0), 1);
        });
    }
}
