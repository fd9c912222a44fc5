/** Each sentence of the document that names a boundary case, with a test of its own. */
public final class EdgesTest {
    public static void main(String[] args) throws Exception {
        Sentences s = new Sentences();
        s.of("What it is", "the same town by another law.", () -> sameTown(s));
        s.of("What it is", "An object is used for at most 512 calls after it has been made; what later calls answer is free.", () -> calls512(s));
        Edges[] all = {new TextEdges(s), new BarEdges(s), new GroundEdges(s), new PromiseEdges(s), new CarryEdges(s)};
        for (Edges e : all) {
            e.play();
        }
        s.finish();
    }

    private static void sameTown(Sentences s) {
        FarTown f = new FarTown();
        s.due("town", Checks.town(f, "size 2 1;thing 0 0 0 0 0;thing 0 1 0 0 0;"), 0);
        s.due("law", Checks.law(f, "far 0 0 2;"), 0);
        s.due("another law", Checks.law(f, "far 0 0 1;"), 1);
        s.due("bars", f.bars(0, 0, 0), 1);
        s.due("bars by the other", f.bars(0, 1, 0), 0);
        s.due("bars by the one again", f.bars(0, 0, 0), 1);
    }

    private static void calls512(Sentences s) {
        FarTown f = new FarTown();
        // feed, end and town; feed, end and law: six calls in all.
        String town = "size 8 8;thing 0 0 0";
        s.due("a text of one feed", town.length(), 20);
        Checks.tell(f, 0, town + " 0 0;thing 0 1 0 0 0");
        f.end(40);
        Checks.tell(f, 40, ";thing 0 0 1 0 0;");
        s.due("town", f.town(FarTown.NONE), 0);
        s.due("law", Checks.law(f, "far 0 0 9;"), 0);
        for (int call = 10; call < 511; call++) {
            s.due("call " + call, call % 2 == 0 ? f.moved(0, 0, 0) : f.image(call % 3) ? 1 : 0, 1 - 2 * ((call + 1) % 2));
        }
        s.due("call 511", f.days(0, 0, false), 1000);
        s.due("call 512", f.bars(0, 0, 0), 3);
    }
}
