/** Towns and laws told as texts: what may stand how far from what, who must go, and what would help. */
public final class FarTown {

    /** There is none. */
    public static final int NONE = -1;

    private static final int NO_SUCH = -10000;
    private static final int REFUSED = -2;

    private static final int TAPE_MOST = 500;
    private static final int FEED_BYTES = 20;
    private static final int SEATS = 3;
    private static final int THINGS_MOST = 12;
    private static final int WALLS_MOST = 8;
    private static final int FENCES_MOST = 6;
    private static final int LEAVES_MOST = 12;
    private static final int OBJECTIONS_MOST = 12;
    private static final int WISHES_MOST = 3;
    private static final int RULES_MOST = 10;
    private static final int LINES_MOST = 40;
    private static final int MOVES_MOST = 2;

    private static final int SIDE = 8;
    private static final int POINTS = 64;
    private static final int LAST_DAY = 999;
    private static final int KINDS = 6;
    private static final int HOUSES = 8;
    private static final int HOURS = 8;
    private static final int WINDS = 8;
    private static final int FACINGS = 4;
    private static final int ALL_HOURS = 255;
    private static final int GROWN_MOST = 9;
    private static final int COST_MOST = 99;
    private static final int WAIT_MOST = 99;
    private static final int SLOPE_MOST = 9;
    private static final int FAR_MOST = 12;
    private static final int ROOM_MOST = 12;

    // The columns of a thing's row are the numbers by which thing() asks for them.
    private static final int KIND = 0;
    private static final int AT_X = 1;
    private static final int AT_Y = 2;
    private static final int HOUSE = 3;
    private static final int SINCE = 4;
    private static final int FACES = 5;
    private static final int COST = 6;
    private static final int GONE = 7;
    private static final int THING_WIDE = 8;

    // Walls and fences share one form, so that one test serves both; a fence's day is never asked for.
    private static final int FROM_X = 0;
    private static final int FROM_Y = 1;
    private static final int TO_X = 2;
    private static final int TO_Y = 3;
    private static final int BUILT = 4;
    private static final int LINE_WIDE = 5;

    // Leaves and objections: who, to whom, on which day.
    private static final int WHO = 0;
    private static final int WHOM = 1;
    private static final int WHEN = 2;
    private static final int WORD_WIDE = 3;

    private static final int WISH_KIND = 0;
    private static final int WISH_FACES = 1;
    private static final int WISH_WIDE = 2;

    // The columns of a rule's row stand in the order in which ruled() asks for them.
    private static final int SORT = 0;
    private static final int OF_KIND = 1;
    private static final int TO_KIND = 2;
    private static final int HOW_FAR = 3;
    private static final int WALLED = 4;
    private static final int RULE_WIDE = 5;

    private static final int SORT_FAR = 0;
    private static final int SORT_WIND = 1;
    private static final int SORT_FLOW = 2;
    private static final int SORT_FACE = 3;

    private static final int FAULT_FORM = 1;
    private static final int FAULT_NUMBER = 2;
    private static final int FAULT_MANY = 3;
    private static final int FAULT_TAKEN = 4;

    private static final int TOKEN_END = 0;
    private static final int TOKEN_WORD = 1;
    private static final int TOKEN_NUMBER = 2;
    private static final int TOKEN_STOP = 3;
    private static final int TOKEN_NOT = 4;
    private static final int DIGITS_MOST = 4;

    private static final int[] WIND_X = {1, 1, 0, -1, -1, -1, 0, 1};
    private static final int[] WIND_Y = {0, 1, 1, 1, 0, -1, -1, -1};
    private static final int[] AHEAD_X = {1, 0, -1, 0};
    private static final int[] AHEAD_Y = {0, 1, 0, -1};

    private final Told now;
    private final Told[] images;
    private final Reader reader;
    private final Scene scene;
    private final Court court;
    private final Planner planner;

    public FarTown() {
        now = new Told();
        images = new Told[SEATS];
        reader = new Reader();
        scene = new Scene();
        court = new Court(scene);
        planner = new Planner(scene);
    }

    public int feed(int a, int b, int c, int d, int e) {
        if (now.length > TAPE_MOST - FEED_BYTES) {
            return NONE;
        }
        now.putBytes(a);
        now.putBytes(b);
        now.putBytes(c);
        now.putBytes(d);
        now.putBytes(e);
        return now.length;
    }

    public int end(int n) {
        if (n < 0 || n > now.length) {
            return NONE;
        }
        now.length = n;
        return n;
    }

    public int town(int at) {
        int length = now.takeTape();
        Town target = now.townSeat(seatFor(at, now.towns));
        if (target == null) {
            return REFUSED;
        }
        boolean sound = reader.readTown(now.tape, length);
        now.setFault(reader.fault, reader.place);
        if (!sound) {
            return NONE;
        }
        target.take(reader.town);
        if (at != NONE) {
            return at;
        }
        now.towns++;
        return now.towns - 1;
    }

    public int law(int at) {
        int length = now.takeTape();
        Law target = now.lawSeat(seatFor(at, now.laws));
        if (target == null) {
            return REFUSED;
        }
        boolean sound = reader.readLaw(now.tape, length);
        now.setFault(reader.fault, reader.place);
        if (!sound) {
            return NONE;
        }
        target.take(reader.law);
        if (at != NONE) {
            return at;
        }
        now.laws++;
        return now.laws - 1;
    }

    public int fault(int what) {
        if (what == 0) {
            return now.fault;
        }
        return what == 1 ? now.place : NONE;
    }

    public int about(int town, int what) {
        Town t = now.townAt(town);
        if (t == null) {
            return NO_SUCH;
        }
        if (what >= 20 && what < 20 + HOURS) {
            return t.windIn(what - 20);
        }
        if (what >= 30 && what < 30 + KINDS) {
            return t.growsBy(what - 30);
        }
        switch (what) {
            case 0: return t.width;
            case 1: return t.height;
            case 2: return t.things.size;
            case 3: return t.walls.size;
            case 4: return t.fences.size;
            case 5: return t.slopeX;
            case 6: return t.slopeY;
            case 7: return t.leaves.size;
            case 8: return t.objections.size;
            case 9: return t.wishes.size;
            default: return NO_SUCH;
        }
    }

    public int thing(int town, int thing, int what) {
        Town t = now.townAt(town);
        if (t == null || !t.hasThing(thing) || what < 0 || what >= THING_WIDE) {
            return NO_SUCH;
        }
        return t.things.cell(thing, what);
    }

    public int ruled(int law, int what) {
        Law l = now.lawAt(law);
        if (l == null) {
            return NONE;
        }
        if (what >= 10 && what < 10 + RULE_WIDE * 10) {
            return l.rules.cell(what % 10, what / 10 - 1);
        }
        switch (what) {
            case 0: return l.rules.size;
            case 1: return l.harm ? 1 : 0;
            case 2: return l.heedsLeave ? 1 : 0;
            case 3: return l.silentDays;
            default: return NONE;
        }
    }

    public int add(int town, int kind, int x, int y, int house, int since, int faces) {
        Town t = now.townAt(town);
        if (t == null || !isKind(kind) || !t.hasPoint(x, y) || !isHouse(house)) {
            return NONE;
        }
        if (!isDay(since) || !isFacing(faces) || t.thingAt(x, y) != NONE) {
            return NONE;
        }
        int row = t.things.addRow();
        t.fillThing(row, kind, x, y);
        t.fillRest(row, house, since, faces);
        return row;
    }

    public boolean gone(int town, int thing, int day) {
        Town t = now.townAt(town);
        if (t == null || !t.hasThing(thing) || !isDay(day) || day <= t.things.cell(thing, SINCE)) {
            return false;
        }
        t.things.put(thing, GONE, day);
        return true;
    }

    public int apart(int town, int a, int b) {
        Town t = now.townAt(town);
        if (t == null || !t.hasThing(a) || !t.hasThing(b)) {
            return NONE;
        }
        int dx = t.things.cell(b, AT_X) - t.things.cell(a, AT_X);
        int dy = t.things.cell(b, AT_Y) - t.things.cell(a, AT_Y);
        return dx * dx + dy * dy;
    }

    public int between(int town, int a, int b, int day) {
        Town t = now.townAt(town);
        if (t == null || !t.hasTwo(a, b) || !isDay(day)) {
            return NONE;
        }
        scene.open(t, null, day);
        return Integer.bitCount(scene.wallsBetween(scene.body(a), scene.body(b)));
    }

    public int grown(int town, int thing, int day) {
        Town t = now.townAt(town);
        if (t == null || !t.hasThing(thing) || !isDay(day)) {
            return NONE;
        }
        return t.growth(thing, day);
    }

    public int bars(int town, int law, int day) {
        if (!opened(town, law, day)) {
            return NONE;
        }
        court.collect();
        return court.size;
    }

    public int bar(int town, int law, int day, int k, int what) {
        if (!opened(town, law, day)) {
            return NO_SUCH;
        }
        court.collect();
        if (k < 0 || k >= court.size) {
            return NO_SUCH;
        }
        switch (what) {
            case 0: return court.firstOf(k);
            case 1: return court.secondOf(k);
            case 2: return court.ruleOf(k);
            case 3: return scene.lacks(court.firstOf(k), court.secondOf(k), court.ruleOf(k));
            case 4: return court.whoGoes(k);
            default: return NO_SUCH;
        }
    }

    public int goes(int town, int law, int day) {
        if (!opened(town, law, day)) {
            return NONE;
        }
        court.collect();
        int leaving = 0;
        for (int k = 0; k < court.size; k++) {
            int goer = court.whoGoes(k);
            if (goer != NONE) {
                leaving |= 1 << goer;
            }
        }
        return leaving;
    }

    public int pays(int town, int law, int day, int house) {
        if (!isHouse(house) || !opened(town, law, day)) {
            return NONE;
        }
        court.collect();
        int sum = 0;
        int settled = 0;
        for (int k = 0; k < court.size; k++) {
            int goer = court.whoGoes(k);
            if (goer == NONE || (settled >> goer & 1) != 0) {
                continue;
            }
            settled |= 1 << goer;
            if (court.payer(k, goer) == house) {
                sum += scene.ofThing(goer, COST);
            }
        }
        return sum;
    }

    public int first(int town, int law, int a, int b) {
        Town t = now.townAt(town);
        Law l = now.lawAt(law);
        if (t == null || l == null || !t.hasTwo(a, b)) {
            return NONE;
        }
        for (int day = 0; day <= LAST_DAY; day++) {
            if (day > 0 && !t.changesOn(day)) {
                continue;
            }
            scene.open(t, l, day);
            if (scene.foes(a, b)) {
                return day;
            }
        }
        return NONE;
    }

    public boolean may(int town, int law, int day, int kind, int x, int y, int faces) {
        if (!isKind(kind) || !isFacing(faces) || !opened(town, law, day)) {
            return false;
        }
        return planner.maySit(kind, faces, x, y);
    }

    public int spots(int town, int law, int day, int kind, int faces) {
        if (!isKind(kind) || !isFacing(faces) || !opened(town, law, day)) {
            return NONE;
        }
        return Long.bitCount(planner.spotsFor(kind, faces));
    }

    public int spot(int town, int law, int day, int kind, int faces, int k) {
        if (k < 0 || !isKind(kind) || !isFacing(faces) || !opened(town, law, day)) {
            return NONE;
        }
        long mask = planner.spotsFor(kind, faces);
        int seen = 0;
        for (int p = 0; p < POINTS; p++) {
            if ((mask >> p & 1L) == 0L) {
                continue;
            }
            if (seen == k) {
                return p;
            }
            seen++;
        }
        return NONE;
    }

    public int wish(int town, int kind, int faces) {
        Town t = now.townAt(town);
        if (t == null || !isKind(kind) || !isFacing(faces)) {
            return NONE;
        }
        int row = t.wishes.addRow();
        if (row == NONE) {
            return NONE;
        }
        t.wishes.put(row, WISH_KIND, kind);
        t.wishes.put(row, WISH_FACES, faces);
        return t.wishes.size;
    }

    public boolean forget(int town) {
        Town t = now.townAt(town);
        if (t == null || t.wishes.size == 0) {
            return false;
        }
        t.wishes.size = 0;
        return true;
    }

    public int plan(int town, int law, int day, boolean bare, int k) {
        Town t = now.townAt(town);
        if (t == null || k < 0 || k >= t.wishes.size || !opened(town, law, day)) {
            return NONE;
        }
        return planner.findPlan(bare) ? planner.pointOf(k) : NONE;
    }

    public int blame(int town, int law, int day) {
        Law l = now.lawAt(law);
        if (l == null || !opened(town, law, day) || planner.findPlan(true)) {
            return NONE;
        }
        for (int rule = 0; rule < l.rules.size; rule++) {
            scene.without = rule;
            if (planner.findPlan(true)) {
                return rule;
            }
        }
        return NONE;
    }

    public int fewest(int town, int law, int day, boolean cheap) {
        if (!opened(town, law, day)) {
            return NONE;
        }
        scene.findFoes();
        return court.fewestWithout(cheap);
    }

    public int fenced(int town, int law, int day) {
        if (!opened(town, law, day)) {
            return NONE;
        }
        court.collect();
        return court.fewestFences();
    }

    public int smells(int town, int a, int b) {
        Town t = now.townAt(town);
        if (t == null || !t.hasTwo(a, b)) {
            return NONE;
        }
        int dx = t.things.cell(b, AT_X) - t.things.cell(a, AT_X);
        int dy = t.things.cell(b, AT_Y) - t.things.cell(a, AT_Y);
        return t.hoursDownwind(ALL_HOURS, dx, dy);
    }

    public int beside(int town, int a, int b, int day) {
        Law one = now.lawAt(a);
        Law other = now.lawAt(b);
        if (one == null || other == null || !opened(town, a, day)) {
            return NONE;
        }
        int n = 0;
        for (int i = 0; i < THINGS_MOST; i++) {
            for (int j = i + 1; j < THINGS_MOST; j++) {
                scene.law = one;
                boolean byOne = scene.foes(i, j);
                scene.law = other;
                if (byOne != scene.foes(i, j)) {
                    n++;
                }
            }
        }
        return n;
    }

    public int moved(int town, int law, int day) {
        return opened(town, law, day) && planner.findMoves() ? planner.movers : NONE;
    }

    public int movedTo(int town, int law, int day, int k) {
        if (!opened(town, law, day) || !planner.findMoves()) {
            return NONE;
        }
        return k < 0 || k >= Integer.bitCount(planner.movers) ? NONE : planner.pointOf(k);
    }

    public int quiet(int town, int law, int day) {
        Law l = now.lawAt(law);
        if (l == null || !opened(town, law, day)) {
            return NONE;
        }
        int still = 0;
        for (int hour = 0; hour < HOURS; hour++) {
            scene.hours = 1 << hour;
            court.collect();
            if (!court.hasSort(SORT_WIND)) {
                still |= 1 << hour;
            }
        }
        return still;
    }

    public int room(int town, int law, int day) {
        if (!opened(town, law, day)) {
            return NONE;
        }
        for (int more = 0; more <= ROOM_MOST; more++) {
            scene.extra = more;
            if (scene.findFoes()) {
                return more - 1;
            }
        }
        return ROOM_MOST;
    }

    public int by(int town, int law, int day, int rule) {
        Law l = now.lawAt(law);
        if (l == null || rule < 0 || rule >= l.rules.size || !opened(town, law, day)) {
            return NONE;
        }
        court.collect();
        int n = 0;
        for (int k = 0; k < court.size; k++) {
            if (court.ruleOf(k) == rule) {
                n++;
            }
        }
        return n;
    }

    public int days(int town, int law, boolean first) {
        Town t = now.townAt(town);
        Law l = now.lawAt(law);
        if (t == null || l == null) {
            return NONE;
        }
        int n = 0;
        boolean barred = false;
        for (int day = 0; day <= LAST_DAY; day++) {
            if (day == 0 || t.changesOn(day)) {
                scene.open(t, l, day);
                barred = scene.findFoes();
            }
            if (barred && first) {
                return day;
            }
            n += barred ? 1 : 0;
        }
        return first ? NONE : n;
    }

    public int feud(int town, int law, int day, int house, int other) {
        if (!isHouse(house) || !isHouse(other) || !opened(town, law, day)) {
            return NONE;
        }
        court.collect();
        int n = 0;
        for (int k = 0; k < court.size; k++) {
            int one = scene.ofThing(court.firstOf(k), HOUSE);
            int two = scene.ofThing(court.secondOf(k), HOUSE);
            if (one == house && two == other || one == other && two == house) {
                n++;
            }
        }
        return n;
    }

    public int count(int what) {
        if (what == 0) {
            return now.towns;
        }
        return what == 1 ? now.laws : REFUSED;
    }

    public boolean image(int k) {
        if (k < 0 || k >= images.length) {
            return false;
        }
        if (images[k] == null) {
            images[k] = new Told();
        }
        images[k].take(now);
        return true;
    }

    public boolean again(int k) {
        if (k < 0 || k >= images.length || images[k] == null) {
            return false;
        }
        now.take(images[k]);
        return true;
    }

    private boolean opened(int town, int law, int day) {
        Town t = now.townAt(town);
        Law l = now.lawAt(law);
        if (t == null || l == null || !isDay(day)) {
            return false;
        }
        scene.open(t, l, day);
        return true;
    }

    private static int seatFor(int at, int taken) {
        if (at == NONE) {
            return taken;
        }
        return at >= 0 && at < taken ? at : NONE;
    }

    private static boolean isDay(int day) {
        return day >= 0 && day <= LAST_DAY;
    }

    private static boolean isKind(int kind) {
        return kind >= 0 && kind < KINDS;
    }

    private static boolean isHouse(int house) {
        return house >= 0 && house < HOUSES;
    }

    private static boolean isFacing(int faces) {
        return faces == NONE || faces >= 0 && faces < FACINGS;
    }

    /** Rows of numbers, all of one width, at most so many. */
    private static final class Table {
        final int most;
        final int wide;
        final int[] cells;
        int size;

        Table(int most, int wide) {
            this.most = most > 0 && wide > 0 ? most : 0;
            this.wide = most > 0 && wide > 0 ? wide : 0;
            cells = new int[this.most * this.wide];
        }

        int cell(int row, int column) {
            if (row < 0 || row >= size || column < 0 || column >= wide) {
                return NONE;
            }
            int at = row * wide + column;
            return at < cells.length ? cells[at] : NONE;
        }

        void put(int row, int column, int value) {
            if (row < 0 || row >= size || column < 0 || column >= wide) {
                return;
            }
            int at = row * wide + column;
            if (at < cells.length) {
                cells[at] = value;
            }
        }

        int addRow() {
            if (size >= most) {
                return NONE;
            }
            size++;
            return size - 1;
        }

        void take(Table other) {
            if (other == null || other.cells.length != cells.length) {
                return;
            }
            System.arraycopy(other.cells, 0, cells, 0, cells.length);
            size = other.size;
        }
    }

    /** A town as it is told. */
    private static final class Town {
        int width;
        int height;
        int slopeX;
        int slopeY;
        final Table things;
        final Table walls;
        final Table fences;
        final Table leaves;
        final Table objections;
        final Table wishes;
        final int[] winds;
        final int[] grows;

        Town() {
            things = new Table(THINGS_MOST, THING_WIDE);
            walls = new Table(WALLS_MOST, LINE_WIDE);
            fences = new Table(FENCES_MOST, LINE_WIDE);
            leaves = new Table(LEAVES_MOST, WORD_WIDE);
            objections = new Table(OBJECTIONS_MOST, WORD_WIDE);
            wishes = new Table(WISHES_MOST, WISH_WIDE);
            winds = new int[HOURS];
            grows = new int[KINDS];
        }

        void clear() {
            width = 0;
            height = 0;
            slopeX = 0;
            slopeY = 0;
            things.size = 0;
            walls.size = 0;
            fences.size = 0;
            leaves.size = 0;
            objections.size = 0;
            wishes.size = 0;
            for (int i = 0; i < winds.length; i++) {
                winds[i] = NONE;
            }
            for (int i = 0; i < grows.length; i++) {
                grows[i] = NONE;
            }
        }

        void take(Town other) {
            if (other == null) {
                return;
            }
            width = other.width;
            height = other.height;
            slopeX = other.slopeX;
            slopeY = other.slopeY;
            things.take(other.things);
            walls.take(other.walls);
            fences.take(other.fences);
            leaves.take(other.leaves);
            objections.take(other.objections);
            wishes.take(other.wishes);
            for (int i = 0; i < winds.length && i < other.winds.length; i++) {
                winds[i] = other.winds[i];
            }
            for (int i = 0; i < grows.length && i < other.grows.length; i++) {
                grows[i] = other.grows[i];
            }
        }

        boolean hasPoint(int x, int y) {
            return x >= 0 && x < width && y >= 0 && y < height;
        }

        boolean hasThing(int thing) {
            return thing >= 0 && thing < things.size;
        }

        boolean hasTwo(int a, int b) {
            return hasThing(a) && hasThing(b) && a != b;
        }

        /** Which thing was ever told at a point, whatever the days. */
        int thingAt(int x, int y) {
            for (int i = 0; i < things.size; i++) {
                if (things.cell(i, AT_X) == x && things.cell(i, AT_Y) == y) {
                    return i;
                }
            }
            return NONE;
        }

        void fillThing(int row, int kind, int x, int y) {
            things.put(row, KIND, kind);
            things.put(row, AT_X, x);
            things.put(row, AT_Y, y);
        }

        void fillRest(int row, int house, int since, int faces) {
            things.put(row, HOUSE, house);
            things.put(row, SINCE, since);
            things.put(row, FACES, faces);
            things.put(row, COST, 1);
            things.put(row, GONE, NONE);
        }

        boolean stands(int thing, int day) {
            int from = things.cell(thing, GONE);
            return hasThing(thing) && things.cell(thing, SINCE) <= day && (from == NONE || day < from);
        }

        int growsBy(int kind) {
            return kind >= 0 && kind < grows.length ? grows[kind] : NONE;
        }

        int growth(int thing, int day) {
            int step = growsBy(things.cell(thing, KIND));
            int age = day - things.cell(thing, SINCE);
            if (step <= 0 || age < step) {
                return 0;
            }
            int grown = age / step;
            return grown > GROWN_MOST ? GROWN_MOST : grown;
        }

        /** Whether a day may differ from the one before it in who stands, how big, or in the walls. */
        boolean changesOn(int day) {
            for (int i = 0; i < things.size; i++) {
                if (things.cell(i, SINCE) == day || things.cell(i, GONE) == day) {
                    return true;
                }
                if (growth(i, day) != growth(i, day - 1)) {
                    return true;
                }
            }
            for (int i = 0; i < walls.size; i++) {
                if (walls.cell(i, BUILT) == day) {
                    return true;
                }
            }
            return false;
        }

        int windIn(int hour) {
            return hour >= 0 && hour < winds.length ? winds[hour] : NONE;
        }

        /** In how many of some hours, told as bits, what lies so far off lies downwind. */
        int hoursDownwind(int hours, int dx, int dy) {
            int n = 0;
            for (int hour = 0; hour < winds.length; hour++) {
                int toward = winds[hour];
                if ((hours >> hour & 1) == 0 || toward < 0 || toward >= WIND_X.length || toward >= WIND_Y.length) {
                    continue;
                }
                int along = dx * WIND_X[toward] + dy * WIND_Y[toward];
                int across = dx * WIND_Y[toward] - dy * WIND_X[toward];
                if (along > 0 && along >= across && along >= -across) {
                    n++;
                }
            }
            return n;
        }

        boolean gaveLeave(int giver, int taker, int latest) {
            for (int i = 0; i < leaves.size; i++) {
                boolean theirs = leaves.cell(i, WHO) == giver && leaves.cell(i, WHOM) == taker;
                if (theirs && leaves.cell(i, WHEN) <= latest) {
                    return true;
                }
            }
            return false;
        }

        boolean objected(int who, int whom, int from, int to) {
            for (int i = 0; i < objections.size; i++) {
                boolean theirs = objections.cell(i, WHO) == who && objections.cell(i, WHOM) == whom;
                int day = objections.cell(i, WHEN);
                if (theirs && day >= from && day <= to) {
                    return true;
                }
            }
            return false;
        }
    }

    /** A law as it is told. */
    private static final class Law {
        final Table rules;
        boolean harm;
        boolean heedsLeave;
        int silentDays;

        Law() {
            rules = new Table(RULES_MOST, RULE_WIDE);
            silentDays = NONE;
        }

        void clear() {
            rules.size = 0;
            harm = false;
            heedsLeave = false;
            silentDays = NONE;
        }

        void take(Law other) {
            if (other == null) {
                return;
            }
            rules.take(other.rules);
            harm = other.harm;
            heedsLeave = other.heedsLeave;
            silentDays = other.silentDays;
        }
    }

    /** All that is told: what an image keeps. */
    private static final class Told {
        final byte[] tape;
        int length;
        int fault;
        int place;
        int towns;
        int laws;
        final Town[] townRow;
        final Law[] lawRow;

        Told() {
            tape = new byte[TAPE_MOST];
            place = NONE;
            townRow = new Town[SEATS];
            lawRow = new Law[SEATS];
            for (int i = 0; i < SEATS; i++) {
                townRow[i] = new Town();
                lawRow[i] = new Law();
            }
        }

        void putBytes(int number) {
            for (int shift = 24; shift >= 0; shift -= 8) {
                if (length >= 0 && length < tape.length) {
                    tape[length] = (byte) (number >>> shift);
                    length++;
                }
            }
        }

        /** Takes the tape, whether it is then read or not: it is empty, without a fault so far; how long it was. */
        int takeTape() {
            int taken = length;
            length = 0;
            setFault(0, NONE);
            return taken;
        }

        void setFault(int which, int where) {
            fault = which;
            place = where;
        }

        Town townSeat(int at) {
            return at >= 0 && at < townRow.length ? townRow[at] : null;
        }

        Law lawSeat(int at) {
            return at >= 0 && at < lawRow.length ? lawRow[at] : null;
        }

        Town townAt(int at) {
            return at < towns ? townSeat(at) : null;
        }

        Law lawAt(int at) {
            return at < laws ? lawSeat(at) : null;
        }

        void take(Told other) {
            if (other == null) {
                return;
            }
            for (int i = 0; i < tape.length && i < other.tape.length; i++) {
                tape[i] = other.tape[i];
            }
            length = other.length;
            fault = other.fault;
            place = other.place;
            towns = other.towns;
            laws = other.laws;
            for (int i = 0; i < SEATS; i++) {
                Town t = townSeat(i);
                Law l = lawSeat(i);
                if (t != null && l != null) {
                    t.take(other.townSeat(i));
                    l.take(other.lawSeat(i));
                }
            }
        }
    }

    /** Reads a text into a town or law of its own, so that a faulty text changes none that stands. */
    private static final class Reader {
        final Town town;
        final Law law;
        final int[] numbers;
        final int[] places;
        byte[] tape;
        int length;
        int next;
        int token;
        int start;
        int value;
        int fault;
        int place;

        Reader() {
            town = new Town();
            law = new Law();
            numbers = new int[6];
            places = new int[6];
        }

        boolean readTown(byte[] bytes, int size) {
            begin(bytes, size);
            town.clear();
            readSize();
            for (int line = 1; line <= TAPE_MOST && fault != FAULT_FORM && token != TOKEN_END; line++) {
                if (line > LINES_MOST) {
                    note(FAULT_MANY, start);
                }
                readLine();
            }
            return fault == 0;
        }

        boolean readLaw(byte[] bytes, int size) {
            begin(bytes, size);
            law.clear();
            for (int rule = 1; rule <= TAPE_MOST && fault != FAULT_FORM && token != TOKEN_END; rule++) {
                readRule();
            }
            return fault == 0;
        }

        private void begin(byte[] bytes, int size) {
            tape = bytes;
            length = size;
            next = 0;
            fault = 0;
            place = NONE;
            step();
        }

        private void readSize() {
            if (!readWord("size") || !readNumbers(0, 2) || !readStop()) {
                return;
            }
            check(0, 1, SIDE);
            check(1, 1, SIDE);
            town.width = number(0);
            town.height = number(1);
        }

        private void readLine() {
            int head = start;
            if (isWord("thing")) {
                readThing(head);
            } else if (isWord("wall")) {
                readSpan(town.walls, head, 5);
            } else if (isWord("fence")) {
                readSpan(town.fences, head, 4);
            } else if (isWord("wind")) {
                readWind();
            } else if (isWord("slope")) {
                readSlope();
            } else if (isWord("leave")) {
                readLeave(head);
            } else if (isWord("object")) {
                readObjection(head);
            } else if (isWord("cost")) {
                readCost();
            } else if (isWord("grow")) {
                readGrow();
            } else {
                breakOff();
            }
        }

        private void readThing(int head) {
            step();
            if (!readNumbers(0, 5)) {
                return;
            }
            boolean facing = isWord("faces");
            if (facing) {
                step();
                if (!readNumbers(5, 1)) {
                    return;
                }
            }
            if (!readStop()) {
                return;
            }
            checkPlaceFor(town.things, head);
            check(0, 0, KINDS - 1);
            checkPoint(1);
            check(3, 0, HOUSES - 1);
            check(4, 0, LAST_DAY);
            if (facing) {
                check(5, 0, FACINGS - 1);
            }
            if (town.thingAt(number(1), number(2)) != NONE) {
                note(FAULT_TAKEN, placeOf(1));
            }
            if (fault == 0) {
                int row = town.things.addRow();
                town.fillThing(row, number(0), number(1), number(2));
                town.fillRest(row, number(3), number(4), facing ? number(5) : NONE);
            }
        }

        private void readSpan(Table lines, int head, int many) {
            step();
            if (!readNumbers(0, many) || !readStop()) {
                return;
            }
            checkPlaceFor(lines, head);
            checkPoint(0);
            checkPoint(2);
            if (number(0) == number(2) && number(1) == number(3)) {
                note(FAULT_NUMBER, placeOf(3));
            }
            if (many > BUILT) {
                check(BUILT, 0, LAST_DAY);
            }
            keep(lines, many);
        }

        private void readWind() {
            step();
            if (!readNumbers(0, 2) || !readStop()) {
                return;
            }
            check(0, 0, HOURS - 1);
            check(1, 0, WINDS - 1);
            int hour = number(0);
            if (fault == 0 && hour >= 0 && hour < town.winds.length) {
                town.winds[hour] = number(1);
            }
        }

        private void readSlope() {
            step();
            int signX = readSign();
            if (signX == 0 || !readNumbers(0, 1)) {
                return;
            }
            int signY = readSign();
            if (signY == 0 || !readNumbers(1, 1) || !readStop()) {
                return;
            }
            check(0, 0, SLOPE_MOST);
            check(1, 0, SLOPE_MOST);
            if (fault == 0) {
                town.slopeX = signX * number(0);
                town.slopeY = signY * number(1);
            }
        }

        private int readSign() {
            int sign = isWord("up") ? 1 : isWord("down") ? -1 : 0;
            if (sign == 0) {
                breakOff();
            } else {
                step();
            }
            return sign;
        }

        private void readLeave(int head) {
            step();
            if (!readNumbers(0, WORD_WIDE) || !readStop()) {
                return;
            }
            checkPlaceFor(town.leaves, head);
            check(0, 0, HOUSES - 1);
            check(1, 0, HOUSES - 1);
            check(2, 0, LAST_DAY);
            keep(town.leaves, WORD_WIDE);
        }

        private void readObjection(int head) {
            step();
            if (!readNumbers(0, WORD_WIDE) || !readStop()) {
                return;
            }
            checkPlaceFor(town.objections, head);
            check(0, 0, town.things.size - 1);
            check(1, 0, town.things.size - 1);
            if (number(0) == number(1)) {
                note(FAULT_NUMBER, placeOf(1));
            }
            check(2, 0, LAST_DAY);
            keep(town.objections, WORD_WIDE);
        }

        private void readCost() {
            step();
            if (!readNumbers(0, 2) || !readStop()) {
                return;
            }
            check(0, 0, town.things.size - 1);
            check(1, 0, COST_MOST);
            if (fault == 0) {
                town.things.put(number(0), COST, number(1));
            }
        }

        private void readGrow() {
            step();
            if (!readNumbers(0, 2) || !readStop()) {
                return;
            }
            check(0, 0, KINDS - 1);
            check(1, 1, WAIT_MOST);
            int kind = number(0);
            if (fault == 0 && kind >= 0 && kind < town.grows.length) {
                town.grows[kind] = number(1);
            }
        }

        private void readRule() {
            int head = start;
            int sort = wordSort();
            if (sort != NONE) {
                readDistance(sort, head);
            } else if (isWord("later") || isWord("harm")) {
                boolean harm = isWord("harm");
                step();
                if (readStop()) {
                    law.harm = harm;
                }
            } else if (isWord("leave")) {
                step();
                if (readStop()) {
                    law.heedsLeave = true;
                }
            } else if (isWord("silent")) {
                readSilence();
            } else {
                breakOff();
            }
        }

        private int wordSort() {
            if (isWord("far")) {
                return SORT_FAR;
            }
            if (isWord("wind")) {
                return SORT_WIND;
            }
            if (isWord("flow")) {
                return SORT_FLOW;
            }
            return isWord("face") ? SORT_FACE : NONE;
        }

        private void readDistance(int sort, int head) {
            step();
            if (!readNumbers(0, 3)) {
                return;
            }
            boolean walled = isWord("wall");
            if (walled) {
                step();
            }
            if (!readStop()) {
                return;
            }
            checkPlaceFor(law.rules, head);
            check(0, 0, KINDS - 1);
            check(1, 0, KINDS - 1);
            check(2, 1, FAR_MOST);
            if (fault == 0) {
                int row = law.rules.addRow();
                law.rules.put(row, SORT, sort);
                law.rules.put(row, OF_KIND, number(0));
                law.rules.put(row, TO_KIND, number(1));
                law.rules.put(row, HOW_FAR, number(2));
                law.rules.put(row, WALLED, walled ? 1 : 0);
            }
        }

        private void readSilence() {
            step();
            if (!readNumbers(0, 1) || !readStop()) {
                return;
            }
            check(0, 1, WAIT_MOST);
            if (fault == 0) {
                law.silentDays = number(0);
            }
        }

        private void keep(Table table, int many) {
            if (fault != 0) {
                return;
            }
            int row = table.addRow();
            for (int i = 0; i < many; i++) {
                table.put(row, i, number(i));
            }
        }

        private void checkPlaceFor(Table table, int head) {
            if (table.size >= table.most) {
                note(FAULT_MANY, head);
            }
        }

        private void checkPoint(int at) {
            check(at, 0, town.width - 1);
            check(at + 1, 0, town.height - 1);
        }

        private void check(int at, int least, int greatest) {
            if (number(at) < least || number(at) > greatest) {
                note(FAULT_NUMBER, placeOf(at));
            }
        }

        private int number(int at) {
            return at >= 0 && at < numbers.length ? numbers[at] : 0;
        }

        private int placeOf(int at) {
            return at >= 0 && at < places.length ? places[at] : NONE;
        }

        private void note(int which, int where) {
            if (fault == FAULT_FORM) {
                return;
            }
            if (fault == 0 || where < place || where == place && which < fault) {
                fault = which;
                place = where;
            }
        }

        private void breakOff() {
            fault = FAULT_FORM;
            place = start;
        }

        private boolean readWord(String word) {
            if (!isWord(word)) {
                breakOff();
                return false;
            }
            step();
            return true;
        }

        private boolean readStop() {
            if (token != TOKEN_STOP) {
                breakOff();
                return false;
            }
            step();
            return true;
        }

        private boolean readNumbers(int from, int many) {
            for (int i = from; i < from + many; i++) {
                if (token != TOKEN_NUMBER || i < 0 || i >= numbers.length || i >= places.length) {
                    breakOff();
                    return false;
                }
                numbers[i] = value;
                places[i] = start;
                step();
            }
            return true;
        }

        private boolean isWord(String word) {
            if (token != TOKEN_WORD || next - start != word.length()) {
                return false;
            }
            for (int i = 0; i < word.length(); i++) {
                if (byteAt(start + i) != word.charAt(i)) {
                    return false;
                }
            }
            return true;
        }

        private void step() {
            int at = next;
            while (at < length && isBlank(byteAt(at))) {
                at++;
            }
            start = at;
            if (at >= length) {
                token = TOKEN_END;
            } else if (byteAt(at) == ';') {
                token = TOKEN_STOP;
                at++;
            } else if (isLetter(byteAt(at))) {
                token = TOKEN_WORD;
                while (at < length && isLetter(byteAt(at))) {
                    at++;
                }
            } else if (isDigit(byteAt(at))) {
                value = 0;
                while (at < length && isDigit(byteAt(at))) {
                    value = at - start < DIGITS_MOST ? value * 10 + byteAt(at) - '0' : value;
                    at++;
                }
                token = at - start > DIGITS_MOST ? TOKEN_NOT : TOKEN_NUMBER;
            } else {
                token = TOKEN_NOT;
            }
            next = at;
        }

        private int byteAt(int at) {
            return tape != null && at >= 0 && at < tape.length ? tape[at] & 255 : 0;
        }

        private static boolean isBlank(int c) {
            return c == 10 || c == 32;
        }

        private static boolean isLetter(int c) {
            return c >= 'a' && c <= 'z';
        }

        private static boolean isDigit(int c) {
            return c >= '0' && c <= '9';
        }
    }

    /** What a thing is on a day; also one that is only thought of. */
    private static final class Body {
        int kind;
        int x;
        int y;
        int faces;
        int grown;

        boolean seesAhead(Body other) {
            if (faces < 0 || faces >= AHEAD_X.length || faces >= AHEAD_Y.length) {
                return false;
            }
            int dx = other.x - x;
            int dy = other.y - y;
            int along = dx * AHEAD_X[faces] + dy * AHEAD_Y[faces];
            int across = dx * AHEAD_Y[faces] - dy * AHEAD_X[faces];
            return along > 0 && across == 0;
        }
    }

    /** A town by a law on a day; extra, hours and without answer the questions that begin with "if". */
    private static final class Scene {
        final Body[] bodies;
        final int[] foeRow;
        Town town;
        Law law;
        int day;
        int standing;
        int extra;
        int hours;
        int without;

        Scene() {
            bodies = new Body[THINGS_MOST];
            for (int i = 0; i < THINGS_MOST; i++) {
                bodies[i] = new Body();
            }
            foeRow = new int[THINGS_MOST];
        }

        void open(Town ofTown, Law byLaw, int onDay) {
            town = ofTown;
            law = byLaw;
            day = onDay;
            extra = 0;
            hours = ALL_HOURS;
            without = NONE;
            standing = 0;
            for (int i = 0; i < bodies.length; i++) {
                Body body = bodies[i];
                if (ofTown == null || body == null || !ofTown.hasThing(i)) {
                    continue;
                }
                body.kind = ofTown.things.cell(i, KIND);
                body.x = ofTown.things.cell(i, AT_X);
                body.y = ofTown.things.cell(i, AT_Y);
                body.faces = ofTown.things.cell(i, FACES);
                body.grown = ofTown.growth(i, onDay);
                if (ofTown.stands(i, onDay)) {
                    standing |= 1 << i;
                }
            }
        }

        Body body(int thing) {
            return thing >= 0 && thing < bodies.length ? bodies[thing] : null;
        }

        int ofThing(int thing, int what) {
            return town == null ? NONE : town.things.cell(thing, what);
        }

        boolean bothStand(int a, int b) {
            if (a < 0 || a >= THINGS_MOST || b < 0 || b >= THINGS_MOST) {
                return false;
            }
            return (standing >> a & standing >> b & 1) != 0;
        }

        boolean foes(int a, int b) {
            return a != b && bothStand(a, b) && clash(body(a), body(b));
        }

        /** Fills, for each thing, with whom it is barred; whether any is. */
        boolean findFoes() {
            boolean some = false;
            for (int i = 0; i < foeRow.length; i++) {
                foeRow[i] = 0;
            }
            for (int i = 0; i < foeRow.length; i++) {
                for (int j = i + 1; j < foeRow.length; j++) {
                    if (foes(i, j)) {
                        foeRow[i] |= 1 << j;
                        foeRow[j] |= 1 << i;
                        some = true;
                    }
                }
            }
            return some;
        }

        /** Whether those barred are rid of one another without a set of them. */
        boolean rids(int set) {
            for (int i = 0; i < foeRow.length; i++) {
                if ((set >> i & 1) == 0 && (foeRow[i] & ~set) != 0) {
                    return false;
                }
            }
            return true;
        }

        boolean clash(Body a, Body b) {
            if (law == null) {
                return false;
            }
            for (int rule = 0; rule < law.rules.size; rule++) {
                if (barsTwo(a, b, rule) || barsTwo(b, a, rule)) {
                    return true;
                }
            }
            return false;
        }

        /** Whether a rule bars two, a being the first one. */
        boolean barsTwo(Body a, Body b, int rule) {
            Town ground = town;
            Law ruling = law;
            if (ground == null || ruling == null || a == null || b == null || rule == without) {
                return false;
            }
            Table rules = ruling.rules;
            if (a.kind != rules.cell(rule, OF_KIND) || b.kind != rules.cell(rule, TO_KIND)) {
                return false;
            }
            int dx = b.x - a.x;
            int dy = b.y - a.y;
            int reach = rules.cell(rule, HOW_FAR) + extra + a.grown + b.grown;
            if (dx * dx + dy * dy >= reach * reach || !sortHolds(ground, rules.cell(rule, SORT), a, b)) {
                return false;
            }
            return rules.cell(rule, WALLED) == 0 || linesBetween(ground.walls, true, a, b) == 0;
        }

        private boolean sortHolds(Town ground, int sort, Body a, Body b) {
            int dx = b.x - a.x;
            int dy = b.y - a.y;
            switch (sort) {
                case SORT_FAR: return true;
                case SORT_WIND: return ground.hoursDownwind(hours, dx, dy) > 0;
                case SORT_FLOW: return ground.slopeX * dx + ground.slopeY * dy < 0;
                case SORT_FACE: return a.seesAhead(b) && b.seesAhead(a);
                default: return false;
            }
        }

        /** The walls, as bits, that stand between two. */
        int wallsBetween(Body a, Body b) {
            Town ground = town;
            return ground == null ? 0 : linesBetween(ground.walls, true, a, b);
        }

        /** The fences, as bits, that would stand between two. */
        int fencesBetween(Body a, Body b) {
            Town ground = town;
            return ground == null ? 0 : linesBetween(ground.fences, false, a, b);
        }

        private int linesBetween(Table lines, boolean dated, Body a, Body b) {
            int set = 0;
            if (a == null || b == null) {
                return set;
            }
            for (int i = 0; i < lines.size; i++) {
                if (dated && lines.cell(i, BUILT) > day) {
                    continue;
                }
                int fromX = lines.cell(i, FROM_X);
                int fromY = lines.cell(i, FROM_Y);
                int toX = lines.cell(i, TO_X);
                int toY = lines.cell(i, TO_Y);
                if (cuts(a, b, fromX, fromY, toX, toY)) {
                    set |= 1 << i;
                }
            }
            return set;
        }

        /** Whether a line and the straight way from a to b share a point, by the sides on which ends lie. */
        private static boolean cuts(Body a, Body b, int fromX, int fromY, int toX, int toY) {
            int wayX = b.x - a.x;
            int wayY = b.y - a.y;
            int lineX = toX - fromX;
            int lineY = toY - fromY;
            int sideFrom = wayX * (fromY - a.y) - wayY * (fromX - a.x);
            int sideTo = wayX * (toY - a.y) - wayY * (toX - a.x);
            int sideA = lineX * (a.y - fromY) - lineY * (a.x - fromX);
            int sideB = lineX * (b.y - fromY) - lineY * (b.x - fromX);
            if (sideFrom * sideTo > 0 || sideA * sideB > 0) {
                return false;
            }
            if (sideFrom != 0 || sideTo != 0 || sideA != 0 || sideB != 0) {
                return true;
            }
            // All on one straight: they meet if an end of the one lies within the other.
            boolean holdsA = (a.x - fromX) * (a.x - toX) <= 0 && (a.y - fromY) * (a.y - toY) <= 0;
            boolean holdsB = (b.x - fromX) * (b.x - toX) <= 0 && (b.y - fromY) * (b.y - toY) <= 0;
            boolean held = (fromX - a.x) * (fromX - b.x) <= 0 && (fromY - a.y) * (fromY - b.y) <= 0;
            return holdsA || holdsB || held;
        }

        /** By how much less a rule's distance would have to be for two whom it bars. */
        int lacks(int first, int second, int rule) {
            Body a = body(first);
            Body b = body(second);
            if (law == null || a == null || b == null) {
                return NONE;
            }
            int dx = b.x - a.x;
            int dy = b.y - a.y;
            int whole = 0;
            while (whole < POINTS && (whole + 1) * (whole + 1) <= dx * dx + dy * dy) {
                whole++;
            }
            return law.rules.cell(rule, HOW_FAR) + a.grown + b.grown - whole;
        }
    }

    /** All bars of a scene in their order, and what follows from them. */
    private static final class Court {
        final Scene scene;
        final int[] found;
        final boolean[] askedFences;
        int size;

        Court(Scene scene) {
            this.scene = scene;
            found = new int[THINGS_MOST * (THINGS_MOST - 1) * RULES_MOST];
            askedFences = new boolean[1 << FENCES_MOST];
        }

        void collect() {
            size = 0;
            for (int a = 0; a < THINGS_MOST; a++) {
                for (int b = 0; b < THINGS_MOST; b++) {
                    if (a != b && scene.bothStand(a, b)) {
                        collectOf(a, b);
                    }
                }
            }
        }

        private void collectOf(int a, int b) {
            Law law = scene.law;
            if (law == null) {
                return;
            }
            for (int rule = 0; rule < law.rules.size; rule++) {
                if (a > b && isEven(law.rules, rule) || !scene.barsTwo(scene.body(a), scene.body(b), rule)) {
                    continue;
                }
                if (size >= 0 && size < found.length) {
                    found[size] = (a * THINGS_MOST + b) * RULES_MOST + rule;
                    size++;
                }
            }
        }

        /** Whether a rule treats both of two alike, so that they are told once, the lesser number first. */
        private static boolean isEven(Table rules, int rule) {
            int sort = rules.cell(rule, SORT);
            boolean oneKind = rules.cell(rule, OF_KIND) == rules.cell(rule, TO_KIND);
            return oneKind && (sort == SORT_FAR || sort == SORT_FACE);
        }

        private int codeOf(int k) {
            return k >= 0 && k < size && k < found.length ? found[k] : 0;
        }

        int firstOf(int k) {
            return codeOf(k) / (RULES_MOST * THINGS_MOST);
        }

        int secondOf(int k) {
            return codeOf(k) / RULES_MOST % THINGS_MOST;
        }

        int ruleOf(int k) {
            return codeOf(k) % RULES_MOST;
        }

        boolean hasSort(int sort) {
            Law law = scene.law;
            for (int k = 0; law != null && k < size; k++) {
                if (law.rules.cell(ruleOf(k), SORT) == sort) {
                    return true;
                }
            }
            return false;
        }

        private boolean isLater(int thing, int other) {
            int since = scene.ofThing(thing, SINCE);
            int otherSince = scene.ofThing(other, SINCE);
            return since > otherSince || since == otherSince && thing > other;
        }

        /** Who must go by the k-th of the bars, or NONE. */
        int whoGoes(int k) {
            Town town = scene.town;
            Law law = scene.law;
            if (town == null || law == null) {
                return NONE;
            }
            int a = firstOf(k);
            int b = secondOf(k);
            int goer = law.harm || isLater(a, b) ? a : b;
            int other = goer == a ? b : a;
            int since = scene.ofThing(goer, SINCE);
            int giver = scene.ofThing(other, HOUSE);
            if (law.heedsLeave && town.gaveLeave(giver, scene.ofThing(goer, HOUSE), since)) {
                return NONE;
            }
            int both = Math.max(since, scene.ofThing(other, SINCE));
            int until = both + law.silentDays;
            if (law.silentDays > 0 && scene.day >= until && !town.objected(other, goer, both, until)) {
                return NONE;
            }
            return goer;
        }

        /** Which house pays for one who must go by the k-th of the bars. */
        int payer(int k, int goer) {
            int a = firstOf(k);
            int other = goer == a ? secondOf(k) : a;
            return scene.ofThing(isLater(goer, other) ? goer : other, HOUSE);
        }

        int fewestWithout(boolean cheap) {
            int best = 0;
            int bestCost = NONE;
            for (int set = 0; set < 1 << THINGS_MOST; set++) {
                if ((set & ~scene.standing) != 0 || !scene.rids(set)) {
                    continue;
                }
                int cost = cheap ? costOf(set) : 0;
                boolean lower = bestCost == NONE || cost < bestCost;
                if (lower || cost == bestCost && isLesser(set, best)) {
                    best = set;
                    bestCost = cost;
                }
            }
            return best;
        }

        private int costOf(int set) {
            int sum = 0;
            for (int i = 0; i < THINGS_MOST; i++) {
                if ((set >> i & 1) != 0) {
                    sum += scene.ofThing(i, COST);
                }
            }
            return sum;
        }

        /** Fewer, or as many and the lesser row: that has the lowest number of which the sets differ. */
        private static boolean isLesser(int set, int than) {
            int many = Integer.bitCount(set);
            int thanMany = Integer.bitCount(than);
            int differ = set ^ than;
            return many < thanMany || many == thanMany && (set & differ & -differ) != 0;
        }

        int fewestFences() {
            for (int i = 0; i < askedFences.length; i++) {
                askedFences[i] = false;
            }
            for (int k = 0; k < size; k++) {
                int asked = fencesFor(k);
                if (asked <= 0 || asked >= askedFences.length) {
                    return NONE;
                }
                askedFences[asked] = true;
            }
            int best = askedFences.length - 1;
            for (int set = 0; set < askedFences.length; set++) {
                if (meetsAll(set) && isLesser(set, best)) {
                    best = set;
                }
            }
            return best;
        }

        /** The fences of which any one would lift the k-th of the bars. */
        private int fencesFor(int k) {
            Law law = scene.law;
            if (law == null || law.rules.cell(ruleOf(k), WALLED) != 1) {
                return 0;
            }
            return scene.fencesBetween(scene.body(firstOf(k)), scene.body(secondOf(k)));
        }

        private boolean meetsAll(int set) {
            for (int asked = 0; asked < askedFences.length; asked++) {
                if (askedFences[asked] && (asked & set) == 0) {
                    return false;
                }
            }
            return true;
        }
    }

    /** Seeks points for guests: a kind that asks, the wishes, or things that move. */
    private static final class Planner {
        final Scene scene;
        final Body[] guests;
        final long[] allowed;
        final long[] rows;
        int movers;

        Planner(Scene scene) {
            this.scene = scene;
            guests = new Body[WISHES_MOST];
            for (int i = 0; i < WISHES_MOST; i++) {
                guests[i] = new Body();
            }
            allowed = new long[WISHES_MOST];
            rows = new long[POINTS];
        }

        private Body guest(int i) {
            return i >= 0 && i < guests.length ? guests[i] : null;
        }

        private void welcome(int i, int kind, int faces) {
            Body body = guest(i);
            if (body != null) {
                body.kind = kind;
                body.faces = faces;
                body.grown = 0;
            }
        }

        private void seatAt(int i, int point) {
            Body body = guest(i);
            if (body != null) {
                body.x = point % SIDE;
                body.y = point / SIDE;
            }
        }

        int pointOf(int i) {
            Body body = guest(i);
            return body == null ? NONE : body.y * SIDE + body.x;
        }

        boolean maySit(int kind, int faces, int x, int y) {
            Town town = scene.town;
            if (town == null || !town.hasPoint(x, y)) {
                return false;
            }
            welcome(0, kind, faces);
            seatAt(0, y * SIDE + x);
            return mayStay(guest(0), scene.standing);
        }

        long spotsFor(int kind, int faces) {
            welcome(0, kind, faces);
            return openPoints(0, scene.standing);
        }

        private long openPoints(int i, int others) {
            Town town = scene.town;
            long open = 0L;
            for (int p = 0; town != null && p < POINTS; p++) {
                if (!town.hasPoint(p % SIDE, p / SIDE)) {
                    continue;
                }
                seatAt(i, p);
                if (mayStay(guest(i), others)) {
                    open |= 1L << p;
                }
            }
            return open;
        }

        private boolean mayStay(Body guest, int others) {
            for (int i = 0; i < THINGS_MOST; i++) {
                Body body = scene.body(i);
                if ((others >> i & 1) == 0 || body == null || guest == null) {
                    continue;
                }
                if (body.x == guest.x && body.y == guest.y || scene.clash(guest, body)) {
                    return false;
                }
            }
            return true;
        }

        boolean findPlan(boolean bare) {
            Town town = scene.town;
            if (town == null) {
                return false;
            }
            Table wishes = town.wishes;
            for (int i = 0; i < wishes.size && i < allowed.length; i++) {
                welcome(i, wishes.cell(i, WISH_KIND), wishes.cell(i, WISH_FACES));
                allowed[i] = openPoints(i, bare ? 0 : scene.standing);
            }
            return seatAll(wishes.size);
        }

        /** Seeks the fewest things that can move, with their points; a single one is a pair of itself. */
        boolean findMoves() {
            movers = 0;
            if (!scene.findFoes()) {
                return true;
            }
            for (int many = 1; many <= MOVES_MOST; many++) {
                for (int a = 0; a < THINGS_MOST; a++) {
                    for (int b = a; b < THINGS_MOST; b++) {
                        int set = 1 << a | 1 << b;
                        boolean fits = Integer.bitCount(set) == many && (set & ~scene.standing) == 0;
                        if (!fits || !scene.rids(set)) {
                            continue;
                        }
                        // A point that a mover leaves is free for the other one, never for itself.
                        int staying = scene.standing & ~set;
                        long left = uproot(0, a);
                        allowed[0] = openPoints(0, staying) & ~left;
                        left = uproot(1, b);
                        allowed[1] = openPoints(1, staying) & ~left;
                        if (seatAll(many)) {
                            movers = set;
                            return true;
                        }
                    }
                }
            }
            return false;
        }

        /** Makes a thing a guest: the point, as a bit, that it leaves. */
        private long uproot(int i, int thing) {
            Body body = scene.body(thing);
            if (body == null) {
                return 0L;
            }
            welcome(i, body.kind, body.faces);
            return 1L << (body.y * SIDE + body.x);
        }

        /** Seats the guests by the least row of points at which none clash; false if there is none. */
        private boolean seatAll(int many) {
            if (many <= 0) {
                return true;
            }
            long known = 0L;
            for (int p = 0; p < POINTS; p++) {
                if ((allowed[0] >> p & 1L) == 0L) {
                    continue;
                }
                seatAt(0, p);
                if (many == 1) {
                    return true;
                }
                long second = peaceWith(0, 1);
                long third = many > 2 && second != 0L ? peaceWith(0, 2) : 0L;
                if (many > 2 && third == 0L) {
                    continue;
                }
                for (int q = 0; q < POINTS; q++) {
                    if ((second >> q & 1L) == 0L) {
                        continue;
                    }
                    seatAt(1, q);
                    if (many == 2) {
                        return true;
                    }
                    if ((known >> q & 1L) == 0L) {
                        rows[q] = peaceWith(1, 2);
                        known |= 1L << q;
                    }
                    long last = third & rows[q];
                    if (last != 0L) {
                        seatAt(2, Long.bitCount((last & -last) - 1L));
                        return true;
                    }
                }
            }
            return false;
        }

        /** The allowed points of guest j at which it is at peace with guest i, who is seated. */
        private long peaceWith(int i, int j) {
            Body seated = guest(i);
            Body comer = guest(j);
            if (seated == null || comer == null || j < 0 || j >= allowed.length) {
                return 0L;
            }
            long peace = 0L;
            int taken = seated.y * SIDE + seated.x;
            for (int p = 0; p < POINTS; p++) {
                if ((allowed[j] >> p & 1L) == 0L || p == taken) {
                    continue;
                }
                seatAt(j, p);
                if (!scene.clash(seated, comer)) {
                    peace |= 1L << p;
                }
            }
            return peace;
        }
    }
}
