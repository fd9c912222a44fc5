/** Terms 1: what a town, a law and their texts may be, and the faults of those that may not. */
final class TextEdges extends Edges {
    private static final String T = "Terms 1";
    private static final String TWO = "size 2 2;thing 0 0 0 0 0;thing 0 1 0 0 0;";

    TextEdges(Sentences s) {
        super(s);
    }

    @Override
    void play() {
        townsAndThings();
        lines();
        winds();
        tokens();
        townForm();
        lawForm();
        formFaults();
        numberFaults();
        manyFaults();
    }

    private static String twelve() {
        StringBuilder t = new StringBuilder("size 8 8;");
        for (int i = 0; i < 12; i++) {
            t.append("thing 0 ").append(i % 8).append(' ').append(i / 8).append(" 0 0;");
        }
        return t.toString();
    }

    private void townsAndThings() {
        s.of(T, "A TOWN has POINTS x, y, 0 .. 7 each, below its WIDTH and HEIGHT (1 .. 8).", () -> {
            townNumber("size # 1;", 1, 8);
            townNumber("size 1 #;", 1, 8);
            for (int side = 1; side <= 8; side++) {
                FarTown f = told("size " + side + " " + (9 - side) + ";");
                s.due("width", f.about(0, 0), side);
                s.due("height", f.about(0, 1), 9 - side);
                s.due("at its width", f.add(0, 0, side, 0, 0, 0, NO), NO);
                s.due("at its height", f.add(0, 0, 0, 9 - side, 0, 0, NO), NO);
                s.due("x below 0", f.add(0, 0, -1, 0, 0, 0, NO), NO);
                s.due("y below 0", f.add(0, 0, 0, -1, 0, 0, NO), NO);
                s.due("the last point", f.add(0, 0, side - 1, 8 - side, 0, 0, NO), 0);
            }
        });
        s.of(T, "DAYS are 0 .. 999.", () -> {
            townNumber("size 2 2;thing 0 0 0 0 #;", 0, 999);
            townNumber("size 2 2;wall 0 0 1 1 #;", 0, 999);
            townNumber("size 2 2;leave 0 0 #;", 0, 999);
            townNumber(TWO + "object 0 1 #;", 0, 999);
            argument(() -> told(TWO), "grown", NO, 2, 0, 999, 0, 0, 0);
        });
        s.of(T, "KINDS of THINGS are 0 .. 5, HOUSES 0 .. 7.", () -> {
            townNumber("size 2 2;thing # 0 0 0 0;", 0, 5);
            townNumber("size 2 2;grow # 1;", 0, 5);
            lawNumber("far # 0 1;", 0, 5);
            lawNumber("far 0 # 1;", 0, 5);
            townNumber("size 2 2;thing 0 0 0 # 0;", 0, 7);
            townNumber("size 2 2;leave # 0 0;", 0, 7);
            townNumber("size 2 2;leave 0 # 0;", 0, 7);
        });
        s.of(T, "A THING, at most 12, from 0 on", () -> {
            FarTown f = told(twelve());
            s.due("things", f.about(0, 2), 12);
            s.due("the first", f.thing(0, 0, 1), 0);
            s.due("the last", f.thing(0, 11, 1), 3);
            s.due("no 12", f.thing(0, 12, 1), ODD);
            s.due("no 13th", f.add(0, 0, 7, 7, 0, 0, NO), NO);
        });
        s.of(T, "and may FACE 0 (greater x), 1 (greater y), 2 (lesser x) or 3 (lesser y).", () -> {
            townNumber("size 2 2;thing 0 0 0 0 0 faces #;", 0, 3);
            int[][] around = {{2, 1}, {1, 2}, {0, 1}, {1, 0}};
            for (int to = 0; to < 4; to++) {
                for (int at = 0; at < 4; at++) {
                    FarTown f = told("size 3 3;thing 0 1 1 0 0 faces " + to + ";", "face 0 1 2;");
                    f.add(0, 1, around[at][0], around[at][1], 0, 0, (to + 2) % 4);
                    s.due("facing " + to + " with one at " + at, f.bars(0, 0, 0), to == at ? 1 : 0);
                }
            }
        });
        s.of(T, "It may be GONE from a later DAY on.", () -> {
            FarTown f = told("size 2 1;thing 0 0 0 0 5;thing 0 1 0 0 5;", "far 0 0 2;");
            s.due("not at first", f.thing(0, 0, 7), NO);
            s.due("gone on its own day", f.gone(0, 0, 5), false);
            s.due("gone a day later", f.gone(0, 0, 6), true);
            s.due("a day ahead", f.bars(0, 0, 5), 1);
            s.due("from that day on", f.bars(0, 0, 6), 0);
            s.due("for ever", f.bars(0, 0, 999), 0);
        });
        s.of(T, "COST of a THING: 0 .. 99 (1 at first).", () -> {
            townNumber(TWO + "cost 0 #;", 0, 99);
            FarTown f = told(TWO + "cost 0 99;");
            s.due("told", f.thing(0, 0, 6), 99);
            s.due("at first", f.thing(0, 1, 6), 1);
            s.due("add", f.add(0, 0, 0, 1, 0, 0, NO), 2);
            s.due("at first, too", f.thing(0, 2, 6), 1);
            s.due("told as 0", told(TWO + "cost 1 0;").thing(0, 1, 6), 0);
        });
        s.of(T, "A KIND may GROW: by 1 each so many DAYS, 1 .. 99, behind SINCE, by 9 at most.", () -> {
            townNumber("size 2 2;grow 0 #;", 1, 99);
            for (int step : new int[] {1, 2, 99}) {
                FarTown f = told("size 2 2;thing 3 0 0 0 7;thing 2 1 0 0 7;grow 3 " + step + ";");
                for (int n = 1; n <= 9; n++) {
                    s.due("a day ahead of " + n, f.grown(0, 0, 6 + n * step), n - 1);
                    s.due("grown by " + n, f.grown(0, 0, 7 + n * step), n);
                }
                s.due("never by 10", f.grown(0, 0, Math.min(999, 7 + 10 * step)), 9);
                s.due("on the last day", f.grown(0, 0, 999), 9);
                s.due("another kind", f.grown(0, 1, 999), 0);
            }
        });
    }

    private void crossing(String wall, int want) {
        FarTown f = told("size 8 8;thing 0 2 2 0 0;thing 0 5 5 0 0;wall " + wall + " 0;");
        s.due("wall " + wall, f.between(0, 0, 1, 0), want);
        s.due("wall " + wall + ", from the other", f.between(0, 1, 0, 0), want);
        String[] n = wall.split(" ");
        FarTown g = told("size 8 8;thing 0 2 2 0 0;thing 0 5 5 0 0;wall " + n[2] + " " + n[3] + " " + n[0] + " " + n[1] + " 0;");
        s.due("wall " + wall + ", turned round", g.between(0, 0, 1, 0), want);
    }

    private void lines() {
        s.of(T, "WALLS, at most 8, FENCES, at most 6, from 0 on", () -> {
            FarTown f = told("size 2 2;" + times(8, "wall 0 0 1 1 0;") + times(6, "fence 0 0 1 1;"));
            s.due("walls", f.about(0, 3), 8);
            s.due("fences", f.about(0, 4), 6);
            townFault("size 2 2;" + times(9, "wall 0 0 1 1 0;"), 3, 9 + 8 * 15);
            townFault("size 2 2;" + times(7, "fence 0 0 1 1;"), 3, 9 + 6 * 14);
            FarTown g = told("size 3 2;thing 0 0 0 0 0;thing 0 2 0 0 0;" + times(5, "fence 0 1 2 1;") + "fence 1 0 1 1;", "far 0 0 3 wall;");
            s.due("the sixth is 5", g.fenced(0, 0, 0), 32);
            FarTown h = told("size 3 2;thing 0 0 0 0 0;thing 0 2 0 0 0;" + times(8, "wall 1 0 1 1 0;"), "far 0 0 3 wall;");
            s.due("eight walls", h.between(0, 0, 1, 0), 8);
        });
        s.of(T, "go straight from a POINT to another one", () -> {
            townFault("size 2 2;wall 0 1 0 1 0;", 2, 20);
            townFault("size 2 2;fence 0 1 0 1;", 2, 21);
            townSound("size 2 2;wall 0 1 0 0 0;wall 0 1 1 1 0;fence 0 1 0 0;fence 0 1 1 1;");
        });
        s.of(T, "a WALL stands since a DAY, a FENCE could be built.", () -> {
            FarTown f = told("size 3 1;thing 0 0 0 0 0;thing 0 2 0 0 0;wall 0 0 1 0 7;fence 1 0 2 0;", "far 0 0 3 wall;");
            s.due("a day ahead", f.between(0, 0, 1, 6), 0);
            s.due("bars a day ahead, whatever the fence", f.bars(0, 0, 6), 1);
            s.due("on its day", f.between(0, 0, 1, 7), 1);
            s.due("bars on its day", f.bars(0, 0, 7), 0);
            s.due("for ever", f.between(0, 0, 1, 999), 1);
        });
        s.of(T, "BETWEEN two POINTS is a WALL that has a point in common with the straight way from the one to the other (their ends are of it).", () -> {
            crossing("2 2 2 3", 1);
            crossing("5 5 7 0", 1);
            crossing("0 0 2 2", 1);
            crossing("5 5 7 7", 1);
            crossing("3 3 4 4", 1);
            crossing("0 0 7 7", 1);
            crossing("2 2 5 5", 1);
            crossing("3 3 3 0", 1);
            crossing("3 4 4 3", 1);
            crossing("3 3 4 3", 1);
            crossing("2 3 3 2", 1);
            crossing("1 3 3 1", 1);
            crossing("0 0 1 1", 0);
            crossing("6 6 7 7", 0);
            crossing("2 3 4 5", 0);
            crossing("0 3 3 0", 0);
            crossing("1 2 2 1", 0);
            crossing("4 3 7 3", 0);
            crossing("3 4 3 7", 0);
            crossing("5 6 6 5", 0);
            allWalls(4, 3);
            allWalls(3, 4);
            allWalls(6, 2);
            allWalls(2, 6);
        });
    }

    /** Every wall of a town against every way between two of its twelve points. */
    private void allWalls(int wide, int high) {
        for (int from = 0; from < 12; from++) {
            for (int to = 0; to < 12; to++) {
                if (from == to) {
                    continue;
                }
                FarTown f = told("size " + wide + " " + high + ";wall " + from % wide + " " + from / wide + " " + to % wide + " " + to / wide + " 0;");
                for (int i = 0; i < 12; i++) {
                    f.add(0, 0, i % wide, i / wide, 0, 0, NO);
                }
                for (int a = 0; a < 12; a++) {
                    for (int b = 0; b < 12; b++) {
                        String call = wide + " wide, wall " + from + " to " + to + ", way " + a + " to " + b;
                        s.due(call, f.between(0, a, b, 0), a == b ? NO : share(wide, from, to, a, b) ? 1 : 0);
                    }
                }
            }
        }
    }

    /** Whether two lines among the points wide * y + x have a point in common: where their straights meet, as a fraction. */
    private static boolean share(int wide, int a, int b, int c, int d) {
        int rx = b % wide - a % wide;
        int ry = b / wide - a / wide;
        int sx = d % wide - c % wide;
        int sy = d / wide - c / wide;
        int qx = c % wide - a % wide;
        int qy = c / wide - a / wide;
        int cross = rx * sy - ry * sx;
        int t = qx * sy - qy * sx;
        int u = qx * ry - qy * rx;
        if (cross != 0) {
            int sign = cross > 0 ? 1 : -1;
            return t * sign >= 0 && t * sign <= cross * sign && u * sign >= 0 && u * sign <= cross * sign;
        }
        // On one straight points lie by their numbers: the later beginning is then not behind the earlier end.
        return u == 0 && Math.max(Math.min(a, b), Math.min(c, d)) <= Math.min(Math.max(a, b), Math.max(c, d));
    }

    private void winds() {
        s.of(T, "HOURS are 0 .. 7; in each the WIND blows (or not, as at first)", () -> {
            townNumber("size 2 2;wind # 0;", 0, 7);
            townNumber("size 2 2;wind 0 #;", 0, 7);
            FarTown f = told("size 2 2;wind 0 7;wind 7 0;");
            s.due("hour 0", f.about(0, 20), 7);
            s.due("hour 7", f.about(0, 27), 0);
            for (int hour = 1; hour < 7; hour++) {
                s.due("hour " + hour, f.about(0, 20 + hour), NO);
            }
        });
        s.of(T, "the other one lies DOWNWIND, if dx * u + dy * v is above 0, and not below dx * v - dy * u without its sign.", () -> {
            int[] u = {1, 1, 0, -1, -1, -1, 0, 1};
            int[] v = {0, 1, 1, 1, 0, -1, -1, -1};
            for (int to = 0; to < 8; to++) {
                FarTown f = told("size 7 7;thing 0 3 3 0 0;wind 4 " + to + ";", "wind 0 1 12;");
                for (int p = 0; p < 49; p++) {
                    int dx = p % 7 - 3;
                    int dy = p / 7 - 3;
                    int along = dx * u[to] + dy * v[to];
                    boolean down = along > 0 && along >= Math.abs(dx * v[to] - dy * u[to]);
                    if (p != 24) {
                        s.due("toward " + to + " at " + dx + ", " + dy, f.may(0, 0, 0, 1, p % 7, p / 7, NO), !down);
                    }
                }
            }
            FarTown f = told("size 3 3;thing 0 0 0 0 0;thing 0 2 2 0 0;thing 0 0 2 0 0;wind 0 0;wind 1 1;");
            s.due("just not beside: toward 0 at 1, 1", f.smells(0, 0, 1), 2);
            s.due("toward 1 at 0, 1", f.smells(0, 0, 2), 1);
            s.due("upwind", f.smells(0, 1, 0), 0);
        });
        s.of(T, "SLOPE a, b, -9 .. 9 (0 at first): a POINT is a * x + b * y high.", () -> {
            for (String way : new String[] {"up", "down"}) {
                townNumber("size 2 2;slope " + way + " # up 0;", 0, 9);
                townNumber("size 2 2;slope up 0 " + way + " #;", 0, 9);
            }
            FarTown f = told("size 3 3;thing 0 1 1 0 0;", "flow 0 1 9;");
            s.due("a at first", f.about(0, 5), 0);
            s.due("b at first", f.about(0, 6), 0);
            s.due("nothing is higher on flat ground", f.spots(0, 0, 0, 1, NO), 8);
            FarTown g = told("size 3 3;thing 0 1 1 0 0;slope up 9 down 9;", "flow 0 1 9;", "flow 1 0 9;");
            s.due("a", g.about(0, 5), 9);
            s.due("b", g.about(0, 6), -9);
            s.due("as high or higher", g.spots(0, 0, 0, 1, NO), 5);
            s.due("as high: the first", g.spot(0, 0, 0, 1, NO, 0), 0);
            s.due("as high: the last", g.spot(0, 0, 0, 1, NO, 4), 18);
            s.due("as high or lower", g.spots(0, 1, 0, 1, NO), 5);
        });
    }

    /** A line with another letter, or none, in any one place of its first word is a fault at that word. */
    private void otherLetters(boolean town, String head, String line) {
        int end = (line + ";").replace(';', ' ').indexOf(' ');
        for (int i = 0; i < end; i++) {
            for (String letter : new String[] {"q", ""}) {
                String text = head + line.substring(0, i) + letter + line.substring(i + 1);
                if (town) {
                    townFault(text, 1, head.length());
                } else {
                    lawFault(text, 1, head.length());
                }
            }
        }
    }

    private void tokens() {
        s.of(T, "THE TAPE has at most 500 bytes.", () -> {
            String town = "size 8 8;";
            townSound(town + times(491, " "));
            townFault(times(491, "\n") + "size 8 9;", 2, 498);
            townFault(times(495, " ") + "size ", 1, 500);
            FarTown f = new FarTown();
            Checks.tell(f, 0, times(500, " "));
            s.due("its length", f.end(500), 500);
            s.due("no 501st", f.end(501), NO);
            s.due("blanks alone are a law", f.law(NO), 0);
        });
        s.of(T, "TOKENS, as long as they go, blanks (10, 32) between", () -> {
            townSound("size1 1;");
            townSound("\n size\n\n1 \n 1\n;\n ");
            townFault("size 11;", 1, 7);
            townFault("size 1 1 1;", 1, 9);
            townFault("size 1 1;wind0 0;windo 0 0;", 1, 17);
            townFault("size 1 1;wi nd 0 0;", 1, 9);
            townFault("size 1 1;wind 0 0;thing0 0 0 0 0faces0;", 0, NO);
            for (int c : new int[] {0, 9, 11, 12, 13, 31, 33, 127, 128, 138, 160, 255}) {
                townFault("size" + (char) c + "1 1;", 1, 4);
                lawFault("" + (char) c, 1, 0);
            }
        });
        s.of(T, "words, rows of letters a .. z; NUMBERS, 1 to 4 digits; ; one byte.", () -> {
            for (int c : new int[] {'a' - 1, 'z' + 1, 'A', 'Z', '0' - 1, '9' + 1, '<', '_'}) {
                townFault("size 1 1;wind 0" + (char) c + "0;", 1, 15);
                townFault("size" + (char) c + " 1 1;", 1, 4);
            }
            townFault("size 1 1;a 0;", 1, 9);
            townFault("size 1 1;z 0;", 1, 9);
            townFault("sizea 1 1;", 1, 0);
            townFault("sizez 1 1;", 1, 0);
            for (String line : new String[] {"thing 0 0 0 0 0;", "wall 0 0 1 1 0;", "fence 0 0 1 1;", "wind 0 0;", "slope up 0 up 0;",
                "leave 0 0 0;", "object 0 1 0;", "cost 0 1;", "grow 0 1;"}) {
                otherLetters(true, TWO, line);
            }
            otherLetters(true, "", "size 1 1;");
            for (String rule : new String[] {"far 0 0 1;", "wind 0 0 1;", "flow 0 0 1;", "face 0 0 1;", "later;", "harm;", "leave;", "silent 1;"}) {
                otherLetters(false, "", rule);
            }
            townFault("size 2 2;thing 0 0 1 0 0 baces 0;", 1, 25);
            townFault("size 2 2;slope op 0 up 0;", 1, 15);
            townFault("size 2 2;slope up 0 sown 0;", 1, 20);
            lawFault("far 0 0 1 ball;", 1, 10);
            townSound("size 1 01;");
            townSound("size 001 0001;");
            townFault("size 00001 1;", 1, 5);
            townFault("size 1 1;thing 0 0 0 0 10000;", 1, 23);
            townFault("size 1 1;thing 0 0 0 0 9999;", 2, 23);
            townFault("size 1 1;;", 1, 9);
        });
    }

    /** A form whose tokens are told with blanks: each token left out, and one more at its end, is a fault 1. */
    private void form(boolean town, String head, String form) {
        String[] tokens = form.split(" ");
        for (int out = 0; out < tokens.length; out++) {
            StringBuilder text = new StringBuilder(head);
            int place = NO;
            for (int i = 0; i < tokens.length; i++) {
                if (i == out) {
                    continue;
                }
                // A number that is left out is missed at the next token that is none.
                boolean follows = i > out && (!isNumber(tokens[out]) || !isNumber(tokens[i]));
                if (place == NO && follows) {
                    place = text.length();
                }
                text.append(tokens[i]).append(' ');
            }
            // A form without its end goes on to the end of the text.
            int end = text.length();
            fault(town, text.toString(), place == NO ? end : place);
        }
        String whole = head + form;
        fault(town, whole.substring(0, whole.length() - 1) + "0;", whole.length() - 1);
    }

    private static boolean isNumber(String token) {
        return Character.isDigit(token.charAt(0));
    }

    private void fault(boolean town, String text, int place) {
        if (town) {
            townFault(text, 1, place);
        } else {
            lawFault(text, 1, place);
        }
    }

    private void townForm() {
        s.of(T, "A TOWN's text: 'size' NUMBER NUMBER ';' {LINE}.", () -> {
            townFault("", 1, 0);
            townFault(" \n", 1, 2);
            townSound("size 1 1;");
            form(true, "", "size 1 1 ;");
            townFault("wind 0 0;size 1 1;", 1, 0);
            townFault("size 1 1;size 1 1;", 1, 9);
        });
        s.of(T, "LINE: ('thing' NUMBER NUMBER NUMBER NUMBER NUMBER ['faces' NUMBER]", () -> {
            form(true, TWO, "thing 0 0 1 0 0 ;");
            townFault(TWO + "thing 0 0 1 0 0 faces ;", 1, TWO.length() + 22);
            townFault(TWO + "thing 0 0 1 0 0 0 0 ;", 1, TWO.length() + 16);
            townFault(TWO + "thing 0 0 1 0 0 faces 0 0 ;", 1, TWO.length() + 24);
            townFault(TWO + "thing 0 0 1 0 0 faces 0 faces 0 ;", 1, TWO.length() + 24);
            townFault(TWO + "thing faces 0 0 0 1 0 0 ;", 1, TWO.length() + 6);
            townFault(TWO + "thing 0 0 1 0 0", 1, TWO.length() + 15);
        });
        s.of(T, "'wall' NUMBER NUMBER NUMBER NUMBER NUMBER | 'fence' NUMBER NUMBER NUMBER NUMBER | 'wind' NUMBER NUMBER", () -> {
            form(true, TWO, "wall 0 0 1 1 0 ;");
            form(true, TWO, "fence 0 0 1 1 ;");
            form(true, TWO, "wind 0 0 ;");
        });
        s.of(T, "'slope' ('up' | 'down') NUMBER ('up' | 'down') NUMBER", () -> {
            form(true, TWO, "slope up 0 up 0 ;");
            form(true, TWO, "slope down 0 down 0 ;");
            townFault(TWO + "slope up 0 left 0 ;", 1, TWO.length() + 11);
            townFault(TWO + "slope left 0 up 0 ;", 1, TWO.length() + 6);
            townFault(TWO + "slope up up 0 0 ;", 1, TWO.length() + 9);
            townFault(TWO + "slope wind 0 0;", 1, TWO.length() + 6);
            townFault(TWO + "slope up 0 wind 0 0;", 1, TWO.length() + 11);
            townFault(TWO + "slope;", 1, TWO.length() + 5);
        });
        s.of(T, "('leave' | 'object') NUMBER NUMBER NUMBER | ('cost' | 'grow') NUMBER NUMBER) ';'", () -> {
            form(true, TWO, "leave 0 0 0 ;");
            form(true, TWO, "object 0 1 0 ;");
            form(true, TWO, "cost 0 1 ;");
            form(true, TWO, "grow 0 1 ;");
            for (String word : new String[] {"tree", "far", "harm", "later", "silent", "face", "faces", "up", "things", "thin", "costs"}) {
                townFault(TWO + word + " 0 0;", 1, TWO.length());
            }
        });
        s.of(T, "(KIND, x, y, HOUSE, DAY; x, y, x, y, DAY; x, y, x, y; HOUR, toward; down: below 0;", () -> {
            FarTown f = told("size 8 5;thing 1 7 3 4 5 faces 2;wall 0 0 0 4 9;wind 2 6;slope down 3 up 4;");
            int[] thing = {1, 7, 3, 4, 5, 2};
            for (int i = 0; i < thing.length; i++) {
                s.due("thing, " + i, f.thing(0, 0, i), thing[i]);
            }
            s.due("wind", f.about(0, 22), 6);
            s.due("slope down", f.about(0, 5), -3);
            s.due("slope up", f.about(0, 6), 4);
            FarTown g = told("size 2 2;slope up 1 down 9;");
            s.due("up", g.about(0, 5), 1);
            s.due("down", g.about(0, 6), -9);
            s.due("down 0", told("size 2 2;slope down 0 down 0;").about(0, 5), 0);
        });
        s.of(T, "leave: a HOUSE gives it to a HOUSE, DAY; object: a THING's HOUSE to a THING, DAY; a THING, so much; a KIND, DAYS).", () -> {
            String two = "size 2 1;thing 0 0 0 3 5;thing 0 1 0 4 6;";
            s.due("3 gives to 4", told(two + "leave 3 4 6;", "far 0 0 2;leave;").goes(0, 0, 6), 0);
            s.due("4 gives to 3", told(two + "leave 4 3 6;", "far 0 0 2;leave;").goes(0, 0, 6), 2);
            s.due("0 objects to 1", told(two + "object 0 1 6;", "far 0 0 2;silent 1;").goes(0, 0, 9), 2);
            s.due("1 objects to 0", told(two + "object 1 0 6;", "far 0 0 2;silent 1;").goes(0, 0, 9), 0);
            s.due("1 costs 9", told(two + "cost 1 9;").thing(0, 1, 6), 9);
            s.due("kind 1 grows by 9", told(two + "grow 1 9;").about(0, 31), 9);
        });
        s.of(T, "Later ones strike, but things, walls, fences, leaves, objections, which are further ones.", () -> {
            FarTown f = told(TWO + "wind 3 1;wind 3 6;slope up 1 up 2;slope down 3 up 0;cost 1 5;cost 1 6;grow 2 7;grow 2 8;"
                + times(2, "wall 0 0 1 1 0;fence 0 0 1 1;leave 0 1 2;object 0 1 2;"));
            s.due("wind", f.about(0, 23), 6);
            s.due("slope a", f.about(0, 5), -3);
            s.due("slope b", f.about(0, 6), 0);
            s.due("cost", f.thing(0, 1, 6), 6);
            s.due("grow", f.about(0, 32), 8);
            for (int what : new int[] {2, 3, 4, 7, 8}) {
                s.due("how many of " + what, f.about(0, what), 2);
            }
            String houses = "size 2 1;thing 0 0 0 1 5;thing 0 1 0 2 6;";
            s.due("a later leave strikes no earlier one", told(houses + "leave 1 2 6;leave 1 2 7;", "far 0 0 2;leave;").goes(0, 0, 9), 0);
            s.due("a later objection neither", told(houses + "object 0 1 6;object 0 1 99;", "far 0 0 2;silent 1;").goes(0, 0, 9), 2);
        });
    }

    private void lawForm() {
        s.of(T, "A LAW's text: {RULE}.", () -> {
            lawSound("");
            lawSound(" \n ");
            lawSound("later;");
            lawFault(";", 1, 0);
            s.due("no rules", told("size 1 1;", "").ruled(0, 0), 0);
        });
        s.of(T, "RULE: (('far' | 'wind' | 'flow' | 'face') NUMBER NUMBER NUMBER ['wall'] | 'later' | 'harm' | 'leave' | 'silent' NUMBER) ';'", () -> {
            for (String sort : new String[] {"far", "wind", "flow", "face"}) {
                form(false, "", sort + " 0 0 1 ;");
                lawFault(sort + " 0 0 1 wall", 1, sort.length() + 11);
                lawFault(sort + " 0 0 1 wall 1;", 1, sort.length() + 12);
                lawFault(sort + " 0 0 1 wall wall;", 1, sort.length() + 12);
                lawFault(sort + " 0 0 wall 1;", 1, sort.length() + 5);
                lawSound(sort + " 0 0 1 wall;");
            }
            for (String word : new String[] {"later", "harm", "leave"}) {
                lawFault(word, 1, word.length());
                lawFault(word + " 0;", 1, word.length() + 1);
                lawFault(word + " wall;", 1, word.length() + 1);
                lawSound(word + " ;" + word + ";");
            }
            form(false, "", "silent 1 ;");
            for (String word : new String[] {"size", "thing", "wall", "fars", "fa", "slope", "object", "silen"}) {
                lawFault("later;" + word + " 0 0 1;", 1, 6);
            }
        });
        s.of(T, "(KIND, KIND, so far, 1 .. 12; silent: DAYS, 1 .. 99).", () -> {
            for (String sort : new String[] {"far", "wind", "flow", "face"}) {
                lawNumber(sort + " # 5 12;", 0, 5);
                lawNumber(sort + " 5 # 12;", 0, 5);
                lawNumber(sort + " 5 0 # wall;", 1, 12);
            }
            lawNumber("silent #;", 1, 99);
            FarTown f = told("size 1 1;", "flow 4 5 12 wall;silent 99;");
            int[] rule = {2, 4, 5, 12, 1};
            for (int i = 0; i < rule.length; i++) {
                s.due("rule, " + i, f.ruled(0, 10 + 10 * i), rule[i]);
            }
            s.due("silent", f.ruled(0, 3), 99);
        });
        s.of(T, "RULES far to face, at most 10, have numbers from 0 on", () -> {
            FarTown f = told("size 1 1;", "harm;far 0 1 1;leave;wind 0 1 2;silent 4;flow 0 1 3;later;face 0 1 4;" + times(6, "far 5 5 12;"));
            s.due("rules", f.ruled(0, 0), 10);
            for (int i = 0; i < 4; i++) {
                s.due("sort of " + i, f.ruled(0, 10 + i), i);
                s.due("how far by " + i, f.ruled(0, 40 + i), i + 1);
            }
            s.due("the last", f.ruled(0, 49), 12);
            lawFault(times(10, "face 0 0 1;") + "harm;flow 0 0 1;", 3, 115);
            lawSound(times(10, "face 0 0 1;") + "harm;later;leave;silent 1;");
        });
        s.of(T, "later or harm, the last one told (later at first).", () -> {
            FarTown f = told("size 1 1;", "", "harm;", "harm;later;");
            s.due("at first", f.ruled(0, 1), 0);
            s.due("harm", f.ruled(1, 1), 1);
            s.due("later as the last one", f.ruled(2, 1), 0);
            s.due("harm as the last one", told("size 1 1;", "later;far 0 0 1;harm;leave;").ruled(0, 1), 1);
        });
    }

    private void formFaults() {
        s.of(T, "FAULTS of both, with places (a token's first byte; the end's):", () -> {
            townFault("size 1 1; \n tree 0;", 1, 12);
            townFault("size 1 1;wind 0   9;", 2, 18);
            townFault("size 1 1;wind 0 \n", 1, 17);
            lawFault("far 0 0 1   ", 1, 12);
            lawFault("   silent\n100;", 2, 10);
            lawFault(times(10, "far 0 0 1;") + "  far 0 0 1;", 3, 102);
        });
        s.of(T, "1 the first byte or token with which no text goes on (a longer row of digits is no token).", () -> {
            townFault("size 1 1;wind 0 00000;", 1, 16);
            townFault("size 1 1;wind 0 0000000000000;", 1, 16);
            townFault("size 1 1;12345;", 1, 9);
            townFault("size 1 1;wind 0 0;!!;", 1, 18);
            townFault("size 1 1;wind 0 0", 1, 17);
            townFault("size 1 1;wind0 0;thing0 0 0 0 0 fac", 1, 32);
            lawFault("far 0 0 00012;", 1, 8);
            lawFault("far 0 0 1 00000", 1, 10);
            lawFault("far 0 0 1 wall 00000", 1, 15);
            lawFault("later 00000", 1, 6);
            lawFault("silent 1 00000", 1, 9);
            lawFault("00000", 1, 0);
            townFault("size 1 1 00000", 1, 9);
            townFault("size 1 1;wind 0 0 00000", 1, 18);
            townFault("size 1 1;thing 0 0 0 0 0 00000 0;", 1, 25);
            lawFault("far 0 0 12;" + (char) 127, 1, 11);
        });
        s.of(T, "If there is none, the first by place, of one place the least:", () -> {
            townFault("size 9 9;wind 9 9;tree;", 1, 18);
            townFault("size 9 9;wind 9 9;", 2, 5);
            townFault("size 1 9;wind 9 9;", 2, 7);
            townFault("size 1 1;wind 9 9;", 2, 14);
            townFault("size 2 2;" + times(7, "fence 0 0 1 1;") + "wind 9 9;", 3, 93);
            townFault("size 2 2;wind 9 9;" + times(7, "fence 0 0 1 1;"), 2, 14);
            townFault("size 2 2;" + times(6, "fence 0 0 1 1;") + "fence 2 2 2 2;", 3, 93);
            townFault(TWO + "thing 6 0 0 0 0;", 2, TWO.length() + 6);
            townFault(TWO + "thing 0 0 0 8 0;", 4, TWO.length() + 8);
            townFault(TWO + "thing 0 0 0 0 1000 faces 9;", 4, TWO.length() + 8);
            townFault(TWO + "thing 0 0 0 0 0;thing 0 2 0 0 0;", 4, TWO.length() + 8);
            townFault(TWO + "thing 0 2 0 0 0;thing 0 0 0 0 0;", 2, TWO.length() + 8);
            townFault(twelve() + "thing 9 0 0 0 0;", 3, 9 + 12 * 16);
            townFault(TWO + times(38, "wind 0 0;") + "thing 0 0 0 0 0;", 3, TWO.length() + 38 * 9);
            lawFault("far 9 9 99;silent 0;later", 1, 25);
            lawFault("far 9 9 99;silent 0;later;", 2, 4);
            lawFault("silent 0;" + times(11, "far 0 0 1;"), 2, 7);
            lawFault(times(11, "far 0 0 1;") + "silent 0;", 3, 100);
        });
    }

    private void numberFaults() {
        s.of(T, "2 a NUMBER that can't be (WIDTH, HEIGHT 1 .. 8; POINTS that the town has;", () -> {
            townNumber("size # 8;", 1, 8);
            townNumber("size 8 #;", 1, 8);
            for (String line : new String[] {"thing 0 # 0 0 0;", "wall # 0 0 1 0;", "wall 0 1 # 0 0;", "fence # 0 0 1;", "fence 0 1 # 0;"}) {
                townNumber("size 3 6;" + line, 0, 2);
            }
            for (String line : new String[] {"thing 0 0 # 0 0;", "wall 0 # 1 0 0;", "wall 0 0 1 # 0;", "fence 0 # 1 0;", "fence 0 0 1 #;"}) {
                townNumber("size 6 3;" + line, 0, 2);
            }
        });
        s.of(T, "the second POINT's y, if both POINTS of a wall or fence are one;", () -> {
            townFault("size 8 8;wall 7 0 7 0 0;", 2, 20);
            townFault("size 8 8;wall 7 0 7 0 1000;", 2, 20);
            townFault("size 8 8;fence 0 7 0 7;", 2, 21);
            townFault("size 8 8;wall 8 0 8 0 0;", 2, 14);
            townFault("size 8 8;wall 0 8 0 8 0;", 2, 16);
            townSound("size 8 8;wall 7 0 0 7 0;fence 7 0 0 7;wall 7 0 7 1 0;fence 7 0 6 0;");
        });
        s.of(T, "THINGS told ahead of it, the second one of object another one; the others as above);", () -> {
            townNumber(TWO + "cost # 0;", 0, 1);
            townFault("size 2 2;cost 0 1;", 2, 14);
            townFault("size 2 2;cost 0 1;thing 0 0 0 0 0;", 2, 14);
            townFault("size 2 2;thing 0 0 0 0 0;cost 1 1;thing 0 1 0 0 0;", 2, 30);
            townFault(TWO + "object 2 0 0;", 2, TWO.length() + 7);
            townFault(TWO + "object 0 2 0;", 2, TWO.length() + 9);
            townFault(TWO + "object 0 0 0;", 2, TWO.length() + 9);
            townFault(TWO + "object 1 1 0;", 2, TWO.length() + 9);
            townFault(TWO + "object 2 2 0;", 2, TWO.length() + 7);
            townSound(TWO + "object 1 0 0;object 0 1 0;");
            townFault("size 2 2;thing 0 0 0 0 0;object 0 1 0;thing 0 1 0 0 0;", 2, 34);
            townFault("size 2 2;object 0 1 0;" + TWO.substring(9), 2, 16);
        });
    }

    private void manyFaults() {
        s.of(T, "3 a 13th thing,", () -> {
            townSound(twelve());
            townFault(twelve() + "thing 0 7 7 0 0;", 3, 9 + 12 * 16);
            townFault(twelve() + "wind 0 0;thing 0 0 0 0 0;", 3, 9 + 12 * 16 + 9);
        });
        s.of(T, "a 9th wall,", () -> {
            townSound("size 2 2;" + times(8, "wall 0 0 1 1 0;"));
            townFault("size 2 2;" + times(8, "wall 0 0 1 1 0;") + "wall 9 9 9 9 9;", 3, 9 + 8 * 15);
        });
        s.of(T, "a 7th fence,", () -> {
            townSound("size 2 2;" + times(6, "fence 0 0 1 1;"));
            townFault("size 2 2;" + times(6, "fence 0 0 1 1;") + "fence 0 0 1 1;", 3, 9 + 6 * 14);
        });
        s.of(T, "a 13th leave,", () -> {
            townSound("size 2 2;" + times(12, "leave 0 1 0;"));
            townFault("size 2 2;" + times(12, "leave 0 1 0;") + "leave 0 1 0;", 3, 9 + 12 * 12);
        });
        s.of(T, "a 13th objection,", () -> {
            townSound(TWO + times(12, "object 0 1 0;"));
            townFault(TWO + times(12, "object 0 1 0;") + "object 0 1 0;", 3, TWO.length() + 12 * 13);
        });
        s.of(T, "an 11th RULE,", () -> {
            lawSound(times(10, "far 0 0 1;"));
            lawFault(times(11, "far 0 0 1;"), 3, 100);
            lawFault(times(10, "far 0 0 1;") + "later;face 0 0 1;", 3, 106);
        });
        s.of(T, "a 41st LINE (of a TOWN), at its first token;", () -> {
            townSound("size 2 2;" + times(40, "wind 0 0;"));
            townFault("size 2 2;" + times(41, "wind 0 0;"), 3, 9 + 40 * 9);
            townFault("size 2 2;" + times(40, "wind 0 0;") + " \ngrow 9 0;", 3, 9 + 40 * 9 + 2);
            townFault("size 2 2;" + times(40, "wind 0 0;") + "wind 0", 1, 9 + 40 * 9 + 6);
            lawSound(times(41, "later;"));
            lawSound(times(83, "harm; "));
        });
        s.of(T, "4 of a TOWN: a thing at a POINT where one stands already (whatever the DAYS), at its x.", () -> {
            townFault(TWO + "thing 5 1 0 7 999 faces 3;", 4, TWO.length() + 8);
            townFault("size 2 2;thing 0 0 0 0 999;thing 0   0 0 0 0;", 4, 37);
            townSound("size 2 2;thing 0 0 0 0 0;thing 0 0 1 0 0;thing 0 1 0 0 0;thing 0 1 1 0 0;");
        });
        s.of(T, "TOWNS and LAWS, at most 3 of each, from 0 on.", () -> {
            FarTown f = new FarTown();
            for (int i = 0; i < 3; i++) {
                s.due("town " + i, Checks.town(f, "size 1 1;"), i);
                s.due("law " + i, Checks.law(f, ""), i);
            }
            s.due("a 4th town", Checks.town(f, "size 1 1;"), -2);
            s.due("a 4th law", Checks.law(f, ""), -2);
            s.due("towns", f.count(0), 3);
            s.due("laws", f.count(1), 3);
        });
    }
}
