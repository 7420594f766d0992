/** Boats that dip indigo from a water of sixteen cells; DOC.md holds the promises that each call keeps. */
public final class IndigoBoats {
    private static final int LOW = -1000000000;
    private static final int BEYOND = 1;
    private static final int NONE = 2;
    private static final int STATE = 3;
    private static final int FULL = 4;
    private static final int UNLIKE = 5;
    private static final int ERRORS = 5;

    private static final int CELLS = 16;
    private static final int SIDE = 4;
    private static final int DEEPEST = 9;
    private static final int MOST = 99;
    private static final int PLACES = 6;
    private static final int WAYS = 5;
    private static final int WEARERS = 6;
    private static final int BOATS = 8;
    private static final int NOBODY = -1;
    private static final int LAST_MINUTE = 9999;
    private static final int DARKEST = 20;
    private static final int AHEAD = 60;
    private static final int MOST_HAD = 792;
    private static final int ROUTE = 4;
    private static final int TAPE = 50;
    private static final int SHEETS = 4;
    private static final int SHEET_NUMBERS = 40;
    private static final int WAITING = 20;

    private static final int BOAT = 0;
    private static final int SKIFF = 1;
    private static final int PUNT = 2;
    private static final int SIME = 3;
    private static final int WHERRY = 4;
    private static final int RAFT = 5;
    private static final int GHOST = 6;
    private static final int KINDS = 7;

    private static final int OF_PLACE = 0;
    private static final int OF_BOAT_CELL = 1;
    private static final int OF_BOAT_KIND = 2;
    private static final int OF_STUFF = 3;
    private static final int OF_DARK = 4;

    private final State now = new State();
    private final State kept = new State();
    private int timesKept;
    /** One water for each MINUTE of a ROUTE, made once, as a run's room is counted; other thoughts use the first. */
    private final Water[] thoughts = new Water[ROUTE + 1];
    private final Reader reader = new Reader();
    private final Voices voices = new Voices();
    private final Matching matching = new Matching();
    private final Sheet[] sheets = new Sheet[SHEETS];
    private final int[] errors = new int[ERRORS + 1];
    private int routeHad;
    private int routeRow;

    public IndigoBoats() {
        for (int i = 0; i <= ROUTE; i++) {
            thoughts[i] = new Water();
        }
        for (int i = 0; i < SHEETS; i++) {
            sheets[i] = new Sheet();
        }
    }

    // ---- the water, the list, wearers

    public int cell(int cell, int what, int v) {
        if (outside(cell, CELLS - 1) || outside(what, 1) || outside(v, what == 0 ? DEEPEST : MOST)) {
            return error(BEYOND);
        }
        return exchange(what == 0 ? now.water.deep : now.water.stuff, cell, v);
    }

    public int ofCell(int cell, int what) {
        if (outside(cell, CELLS - 1) || outside(what, 3)) {
            return error(BEYOND);
        }
        switch (what) {
            case 0: return now.water.deep[cell];
            case 1: return now.water.stuff[cell];
            case 2: return now.water.boatsOn(cell);
            default: return now.water.settlesOn(cell, now.laws);
        }
    }

    public int list(int place, int way) {
        if (outside(place, PLACES - 1) || outside(way, WAYS - 1)) {
            return error(BEYOND);
        }
        return exchange(now.water.ways, place, way);
    }

    public int ofList(int place) {
        if (outside(place, PLACES - 1)) {
            return error(BEYOND);
        }
        return now.water.ways[place];
    }

    public int dark(int v) {
        if (v < 1 || v > DARKEST) {
            return error(BEYOND);
        }
        int old = now.water.dark;
        now.water.dark = v;
        return old;
    }

    public int wants(int wearer, int v) {
        if (outside(wearer, WEARERS - 1) || outside(v, MOST)) {
            return error(BEYOND);
        }
        return exchange(now.wanted, wearer, v);
    }

    public int ofWearer(int wearer) {
        if (outside(wearer, WEARERS - 1)) {
            return error(BEYOND);
        }
        return now.wanted[wearer];
    }

    // ---- boats

    public int boat(int km, int cell) {
        if (noKindNumber(km) || outside(cell, CELLS - 1)) {
            return error(BEYOND);
        }
        if (now.water.boats >= BOATS) {
            return error(FULL);
        }
        return now.water.launch(km, cell);
    }

    public int ofBoat(int boat, int what) {
        if (noBoat(boat) || outside(what, 7)) {
            return error(BEYOND);
        }
        Water water = now.water;
        switch (what) {
            case 0: return water.kind[boat];
            case 1: return water.m[boat];
            case 2: return water.at[boat];
            case 3: return water.barrel[boat];
            case 4: return water.dipsOf(boat);
            case 5: return water.goesOf(boat);
            case 6: return water.leaksOf(boat);
            default: return water.lostOf(boat, now.laws);
        }
    }

    public int change(int boat, int what, int v) {
        if (noBoat(boat) || outside(what, 1) || outside(v, what == 0 ? CELLS - 1 : MOST)) {
            return error(BEYOND);
        }
        return exchange(what == 0 ? now.water.at : now.water.barrel, boat, v);
    }

    public int become(int boat, int km) {
        if (noBoat(boat) || noKindNumber(km)) {
            return error(BEYOND);
        }
        now.water.m[boat] = km % 10;
        return exchange(now.water.kind, boat, km / 10);
    }

    public int as(int boat, int kind) {
        if (noBoat(boat) || outside(kind, KINDS - 1)) {
            return error(BEYOND);
        }
        if (!Kinds.isUnder(now.water.kind[boat], kind)) {
            return error(UNLIKE);
        }
        return now.water.m[boat];
    }

    // ---- texts

    public int feed(long word, int n) {
        if (n < 1 || n > 8) {
            return error(BEYOND);
        }
        if (now.tape.size + n > TAPE) {
            return error(FULL);
        }
        for (int i = 0; i < n; i++) {
            now.tape.add((int) (word >>> (8 * i)) & 255);
        }
        return now.tape.size;
    }

    public int text(int use) {
        if (outside(use, 1)) {
            return error(BEYOND);
        }
        int fault = reader.faultFor(now.tape, use);
        now.tape.clear();
        if (fault >= 0) {
            return -10 - fault;
        }
        now.laws.ofUse(use).copyFrom(reader.read);
        return 1;
    }

    public int law(int use, int a, int b, int c) {
        if (outside(use, 1)) {
            return error(BEYOND);
        }
        return use == 0 ? now.laws.settles(a, b, c) : now.laws.loses(a, b, c);
    }

    // ---- minutes

    public int minutes(int n) {
        if (n < 1 || n > 60) {
            return error(BEYOND);
        }
        if (now.water.minute + n > LAST_MINUTE) {
            return error(STATE);
        }
        return hadBehind(now.water, n);
    }

    public int loose(int n) {
        if (n < 1 || n > 40) {
            return error(BEYOND);
        }
        Water water = now.water;
        if (water.minute + n > LAST_MINUTE) {
            return error(STATE);
        }
        for (int i = 0; i < n; i++) {
            water.ways[water.place()] = now.draw() % WAYS;
            water.stuff[now.draw() % CELLS] = 0;
            water.pass(now.laws, NOBODY, 0);
        }
        return water.had();
    }

    // ---- what would be

    public int then(int n, int what) {
        if (outside(n, AHEAD) || outside(what, 1)) {
            return error(BEYOND);
        }
        Water water = think();
        int had = hadBehind(water, n);
        return what == 0 ? had : water.lying();
    }

    public int on(int boat, int n, int what) {
        if (noBoat(boat) || outside(n, AHEAD) || outside(what, 1)) {
            return error(BEYOND);
        }
        Water water = think();
        hadBehind(water, n);
        return what == 0 ? water.at[boat] : water.barrel[boat];
    }

    public int full(int boat, int v) {
        if (noBoat(boat) || outside(v, MOST)) {
            return error(BEYOND);
        }
        Water water = think();
        for (int n = 0; n <= AHEAD; n++) {
            if (water.barrel[boat] >= v) {
                return n;
            }
            water.pass(now.laws, NOBODY, 0);
        }
        return error(NONE);
    }

    public int wayFor(int place, int n) {
        if (outside(place, PLACES - 1) || outside(n, AHEAD)) {
            return error(BEYOND);
        }
        return bestOf(OF_PLACE, place, WAYS, n);
    }

    public int cellFor(int boat, int n) {
        if (noBoat(boat) || outside(n, AHEAD)) {
            return error(BEYOND);
        }
        return bestOf(OF_BOAT_CELL, boat, CELLS, n);
    }

    public int kindFor(int boat, int n) {
        if (noBoat(boat) || outside(n, AHEAD)) {
            return error(BEYOND);
        }
        return bestOf(OF_BOAT_KIND, boat, KINDS, n);
    }

    public int route(int boat, int n, int what) {
        if (noBoat(boat) || outside(n, ROUTE) || outside(what, 1)) {
            return error(BEYOND);
        }
        routeHad = -1;
        routeRow = 1;
        think();
        tryRoutes(boat, n, 0, 1);
        return what == 0 ? routeRow : routeHad;
    }

    public int darkFor(int n, int v) {
        if (outside(n, AHEAD) || outside(v, MOST_HAD)) {
            return error(BEYOND);
        }
        for (int dark = 1; dark <= DARKEST; dark++) {
            if (hadBehind(suppose(OF_DARK, 0, dark), n) >= v) {
                return dark;
            }
        }
        return error(NONE);
    }

    public int match(int what) {
        if (what < -1 || what >= WEARERS) {
            return error(BEYOND);
        }
        matching.fill(now);
        return what == -1 ? matching.mostServed() : matching.boatOf(what);
    }

    public int blend(int v) {
        if (outside(v, 2 * MOST)) {
            return error(BEYOND);
        }
        Water water = now.water;
        if (water.boats < 2) {
            return error(NONE);
        }
        int best = 0;
        int least = 2 * MOST + 1;
        for (int i = 0; i < water.boats; i++) {
            for (int j = i + 1; j < water.boats; j++) {
                int apart = Math.abs(water.barrel[i] + water.barrel[j] - v);
                if (apart < least) {
                    least = apart;
                    best = 10 * i + j;
                }
            }
        }
        return best;
    }

    public int which(int sheet, int boat) {
        if (outside(sheet, SHEETS - 1) || noBoat(boat)) {
            return error(BEYOND);
        }
        if (sheets[sheet].isMissing()) {
            return error(NONE);
        }
        int set = 0;
        for (int kind = 0; kind < KINDS; kind++) {
            if (firstUnlike(suppose(OF_BOAT_KIND, boat, kind), sheets[sheet].row) == -1) {
                set |= 1 << kind;
            }
        }
        return set;
    }

    public int lay(int sheet, int cell, int what) {
        if (outside(sheet, SHEETS - 1) || outside(cell, CELLS - 1) || outside(what, 1)) {
            return error(BEYOND);
        }
        if (sheets[sheet].isMissing()) {
            return error(NONE);
        }
        int found = 0;
        for (int stuff = 0; stuff <= MOST; stuff++) {
            if (firstUnlike(suppose(OF_STUFF, cell, stuff), sheets[sheet].row) == -1) {
                if (what == 1) {
                    return stuff;
                }
                found++;
            }
        }
        return what == 1 ? error(NONE) : found;
    }

    public int odds(int n, int v, int part) {
        if (outside(n, 30) || outside(v, MOST_HAD) || outside(part, 1)) {
            return error(BEYOND);
        }
        int above = 0;
        for (int dark = 1; dark <= DARKEST; dark++) {
            if (hadBehind(suppose(OF_DARK, 0, dark), n) >= v) {
                above++;
            }
        }
        int by = commonDivisor(above, DARKEST);
        return part == 0 ? above / by : DARKEST / by;
    }

    // ---- draws, voices, sheets, images, what is told

    public int seed(int v) {
        int old = now.z;
        now.z = v;
        return old;
    }

    public int voice(int boat, int act, int x) {
        if (noBoat(boat) || outside(act, 3)) {
            return error(BEYOND);
        }
        return voices.begin(boat, now.water.kind[boat], now.water.m[boat], act, x);
    }

    public int trace(int i) {
        if (!voices.began.has(i)) {
            return error(NONE);
        }
        return voices.began.get(i);
    }

    public int sheet(int sheet, int bits, int n) {
        if (outside(sheet, SHEETS - 1) || (bits != 0 && bits != 8 && bits != 16 && bits != 32)) {
            return error(BEYOND);
        }
        if (bits != 0 && n < 0) {
            return error(STATE);
        }
        if (bits != 0 && n > SHEET_NUMBERS) {
            return error(BEYOND);
        }
        sheets[sheet].begin(bits, bits == 0 ? 0 : n);
        return 1;
    }

    public int put(int sheet, int i, int v) {
        if (outside(sheet, SHEETS - 1)) {
            return error(BEYOND);
        }
        if (sheets[sheet].isMissing()) {
            return error(NONE);
        }
        if (!sheets[sheet].row.has(i)) {
            return error(BEYOND);
        }
        sheets[sheet].write(i, v);
        return 1;
    }

    public int move(int sheet, int i, int other, int j, int n) {
        if (outside(sheet, SHEETS - 1) || outside(other, SHEETS - 1)) {
            return error(BEYOND);
        }
        Sheet from = sheets[sheet];
        Sheet to = sheets[other];
        if (from.isMissing() || to.isMissing()) {
            return error(NONE);
        }
        if (from.bits != to.bits) {
            return error(UNLIKE);
        }
        if (!from.row.holds(i, n) || !to.row.holds(j, n)) {
            return error(BEYOND);
        }
        System.arraycopy(from.row.numbers, i, to.row.numbers, j, n);
        return n;
    }

    public int lies(int sheet) {
        if (outside(sheet, SHEETS - 1)) {
            return error(BEYOND);
        }
        if (sheets[sheet].isMissing()) {
            return error(NONE);
        }
        Row row = sheets[sheet].row;
        for (int i = 0; i < CELLS; i++) {
            if (!row.has(i) || outside(row.get(i), MOST)) {
                return i;
            }
            now.water.stuff[i] = row.get(i);
        }
        return CELLS;
    }

    public int judge(int sheet) {
        if (outside(sheet, SHEETS - 1)) {
            return error(BEYOND);
        }
        if (sheets[sheet].isMissing()) {
            return error(NONE);
        }
        Row row = sheets[sheet].row;
        int boats = now.water.boats;
        for (int i = 0; i < boats; i++) {
            if (!row.has(i) || row.get(i) != now.water.barrel[i]) {
                return i;
            }
        }
        return row.size > boats ? boats : -1;
    }

    public int image() {
        kept.copyFrom(now);
        timesKept++;
        return timesKept;
    }

    public int restore() {
        if (timesKept == 0) {
            return error(NONE);
        }
        now.copyFrom(kept);
        return now.water.minute;
    }

    public int tell(int v) {
        if (now.waiting.size >= WAITING) {
            return error(FULL);
        }
        now.waiting.add(v);
        return now.waiting.size;
    }

    public int check() {
        int unlike = firstUnlike(think(), now.waiting);
        now.waiting.clear();
        return unlike + 1;
    }

    public int count(int what) {
        Water water = now.water;
        switch (what) {
            case 0: return water.boats;
            case 1: return water.minute;
            case 2: return water.had();
            case 3: return water.lying();
            case 4: return water.dark;
            case 5: return water.light();
            case 6: return sum(now.wanted, WEARERS);
            case 7: return now.tape.size;
            case 8: return now.waiting.size;
            case 9: return voices.began.size;
            case 10: return now.z;
            default: return error(BEYOND);
        }
    }

    public int told(int k) {
        if (k < 1 || k > ERRORS) {
            return error(BEYOND);
        }
        return errors[k];
    }

    // ---- what the calls share

    private int error(int k) {
        errors[k]++;
        return LOW - k;
    }

    private static boolean outside(int v, int most) {
        return v < 0 || v > most;
    }

    private boolean noBoat(int boat) {
        return boat < 0 || boat >= now.water.boats;
    }

    private static boolean noKindNumber(int km) {
        return km < 0 || km / 10 >= KINDS;
    }

    private static int exchange(int[] numbers, int i, int v) {
        int old = numbers[i];
        numbers[i] = v;
        return old;
    }

    private static int sum(int[] numbers, int n) {
        int all = 0;
        for (int i = 0; i < n; i++) {
            all += numbers[i];
        }
        return all;
    }

    private static int held(int v) {
        return Math.max(0, Math.min(MOST, v));
    }

    /** The greatest number by which both can be divided; below is above 0, so there is one. */
    private static int commonDivisor(int above, int below) {
        for (int by = below; by > 1; by--) {
            if (above % by == 0 && below % by == 0) {
                return by;
            }
        }
        return 1;
    }

    private Water think() {
        thoughts[0].copyFrom(now.water);
        return thoughts[0];
    }

    /** The water as it is, but for one thing. */
    private Water suppose(int thing, int which, int v) {
        Water water = think();
        switch (thing) {
            case OF_PLACE: water.ways[which] = v; break;
            case OF_BOAT_CELL: water.at[which] = v; break;
            case OF_BOAT_KIND: water.kind[which] = v; break;
            case OF_STUFF: water.stuff[which] = v; break;
            default: water.dark = v; break;
        }
        return water;
    }

    private int hadBehind(Water water, int n) {
        for (int i = 0; i < n; i++) {
            water.pass(now.laws, NOBODY, 0);
        }
        return water.had();
    }

    private int bestOf(int thing, int which, int choices, int n) {
        int best = 0;
        int most = -1;
        for (int v = 0; v < choices; v++) {
            int had = hadBehind(suppose(thing, which, v), n);
            if (had > most) {
                most = had;
                best = v;
            }
        }
        return best;
    }

    /** The first place whose number is not HAD behind so many MINUTES and one; -1 if all are. */
    private int firstUnlike(Water water, Row row) {
        for (int i = 0; i < row.size; i++) {
            water.pass(now.laws, NOBODY, 0);
            if (water.had() != row.get(i)) {
                return i;
            }
        }
        return -1;
    }

    /** Rows are tried in their order, so that only one with more HAD takes the place of an earlier one. */
    private void tryRoutes(int boat, int n, int gone, int row) {
        if (gone >= n || gone >= ROUTE) {
            int had = thoughts[gone].had();
            if (had > routeHad) {
                routeHad = had;
                routeRow = row;
            }
            return;
        }
        for (int way = 0; way < WAYS; way++) {
            thoughts[gone + 1].copyFrom(thoughts[gone]);
            thoughts[gone + 1].pass(now.laws, boat, way);
            tryRoutes(boat, n, gone + 1, 10 * row + way);
        }
    }

    /** Numbers in a row of a fixed room. */
    private static final class Row {
        final int[] numbers;
        int size;

        Row(int room) {
            numbers = new int[Math.max(0, room)];
        }

        boolean has(int i) {
            return i >= 0 && i < size;
        }

        /** Whether n numbers stand from number i on; the sum of both could wrap, so it is not made. */
        boolean holds(int i, int n) {
            return i >= 0 && n >= 0 && i <= size && n <= size - i;
        }

        int get(int i) {
            return has(i) ? numbers[i] : 0;
        }

        void add(int v) {
            if (size < numbers.length) {
                numbers[size] = v;
                size++;
            }
        }

        void clear() {
            size = 0;
        }

        void copyFrom(Row other) {
            size = Math.min(other.size, numbers.length);
            System.arraycopy(other.numbers, 0, numbers, 0, size);
        }
    }

    /** A SHEET; it is missing while it has no bits. */
    private static final class Sheet {
        final Row row = new Row(SHEET_NUMBERS);
        int bits;

        boolean isMissing() {
            return bits == 0;
        }

        void begin(int newBits, int n) {
            bits = newBits;
            row.clear();
            for (int i = 0; i < n; i++) {
                row.add(0);
            }
        }

        void write(int i, int v) {
            if (row.has(i)) {
                row.numbers[i] = bits == 8 ? (byte) v : bits == 16 ? (short) v : v;
            }
        }
    }

    /** What each KIND does, with what it has from the KIND above worked out. */
    private static final class Kinds {
        /** The KIND above, -1 for BOAT, which has none. */
        static int above(int kind) {
            switch (kind) {
                case SKIFF: case PUNT: case SIME: return BOAT;
                case WHERRY: return SKIFF;
                case RAFT: return PUNT;
                case GHOST: return SIME;
                default: return -1;
            }
        }

        static boolean isUnder(int kind, int other) {
            int k = kind;
            for (int i = 0; i < KINDS && k >= 0; i++) {
                if (k == other) {
                    return true;
                }
                k = above(k);
            }
            return false;
        }

        static int dips(int kind, int m, int stuff) {
            switch (kind) {
                case SKIFF: return 3;
                case PUNT: return stuff / 3;
                case SIME: case GHOST: return stuff > 30 ? 10 : 5;
                case WHERRY: return 3 + m;
                case RAFT: return stuff / 3 + m % 3;
                default: return 5;
            }
        }

        static int goes(int kind, int m, int way, int minute) {
            switch (kind) {
                case SKIFF: case WHERRY: return way == 1 ? 3 : way == 3 ? 1 : way;
                case PUNT: case RAFT: return minute % 2 != 0 ? 0 : way;
                case SIME: return turned(way);
                case GHOST: return turned(way) != 0 ? turned(way) : m % 5;
                default: return way;
            }
        }

        static int turned(int way) {
            return way == 0 ? 0 : way == 4 ? 1 : way + 1;
        }

        static int leaks(int kind, int m) {
            switch (kind) {
                case SKIFF: return 2;
                case PUNT: return 0;
                case WHERRY: return 2 + m / 3;
                case RAFT: return 1;
                case GHOST: return 2;
                default: return 1;
            }
        }
    }

    /** All that a MINUTE looks at and changes. */
    private static final class Water {
        final int[] deep = new int[CELLS];
        final int[] stuff = new int[CELLS];
        final int[] ways = new int[PLACES];
        final int[] kind = new int[BOATS];
        final int[] m = new int[BOATS];
        final int[] at = new int[BOATS];
        final int[] barrel = new int[BOATS];
        int boats;
        int minute;
        int dark = 14;

        Water() {
            for (int i = 0; i < CELLS; i++) {
                deep[i] = i % 10;
            }
        }

        void copyFrom(Water other) {
            System.arraycopy(other.deep, 0, deep, 0, CELLS);
            System.arraycopy(other.stuff, 0, stuff, 0, CELLS);
            System.arraycopy(other.ways, 0, ways, 0, PLACES);
            System.arraycopy(other.kind, 0, kind, 0, BOATS);
            System.arraycopy(other.m, 0, m, 0, BOATS);
            System.arraycopy(other.at, 0, at, 0, BOATS);
            System.arraycopy(other.barrel, 0, barrel, 0, BOATS);
            boats = other.boats;
            minute = other.minute;
            dark = other.dark;
        }

        int launch(int km, int cell) {
            int boat = boats;
            kind[boat] = km / 10;
            m[boat] = km % 10;
            at[boat] = cell;
            barrel[boat] = 0;
            boats++;
            return boat;
        }

        int had() {
            return sum(barrel, boats);
        }

        int lying() {
            return sum(stuff, CELLS);
        }

        int light() {
            return minute % 20 < dark ? 0 : 1;
        }

        int place() {
            return minute % PLACES;
        }

        int boatsOn(int cell) {
            int set = 0;
            for (int b = 0; b < boats; b++) {
                if (at[b] == cell) {
                    set |= 1 << b;
                }
            }
            return set;
        }

        int settlesOn(int cell, Laws laws) {
            return laws.settles(stuff[cell], deep[cell], minute % 20);
        }

        int dipsOf(int boat) {
            return Kinds.dips(kind[boat], m[boat], stuff[at[boat]]);
        }

        int goesOf(int boat) {
            return Kinds.goes(kind[boat], m[boat], ways[place()], minute);
        }

        int leaksOf(int boat) {
            return Kinds.leaks(kind[boat], m[boat]);
        }

        int lostOf(int boat, Laws laws) {
            return laws.loses(leaksOf(boat), barrel[boat], light());
        }

        /** One MINUTE; the BOAT led (if any) goes by its own way, whatever it GOES. */
        void pass(Laws laws, int led, int ledWay) {
            boolean light = light() == 1;
            for (int i = 0; i < CELLS; i++) {
                stuff[i] = held(light ? stuff[i] - 7 : stuff[i] + settlesOn(i, laws));
            }
            for (int b = 0; b < boats; b++) {
                dip(b);
            }
            for (int b = 0; b < boats; b++) {
                at[b] = beside(at[b], b == led ? ledWay : goesOf(b));
            }
            for (int b = 0; b < boats; b++) {
                barrel[b] = Math.max(0, barrel[b] - lostOf(b, laws));
            }
            minute++;
        }

        void dip(int boat) {
            int cell = at[boat];
            int taken = Math.min(dipsOf(boat), Math.min(stuff[cell], MOST - barrel[boat]));
            stuff[cell] -= taken;
            barrel[boat] += taken;
        }

        static int beside(int cell, int way) {
            switch (way) {
                case 1: return cell >= SIDE ? cell - SIDE : cell;
                case 2: return cell % SIDE < SIDE - 1 ? cell + 1 : cell;
                case 3: return cell < CELLS - SIDE ? cell + SIDE : cell;
                case 4: return cell % SIDE > 0 ? cell - 1 : cell;
                default: return cell;
            }
        }
    }

    /** A TEXT as steps, each behind what it works on: a number as it is, a NAME as -1 to -3, a sign as 0 less it. */
    private static final class Text {
        private static final int NAMES = 3;

        final Row steps = new Row(TAPE);
        private final int[] stack = new int[TAPE];

        boolean isMissing() {
            return steps.size == 0;
        }

        void copyFrom(Text other) {
            steps.copyFrom(other.steps);
        }

        /** Joins stand here and not in a method of their own, to keep the calls that are open few. */
        int value(int a, int b, int c) {
            int[] row = steps.numbers;
            int n = steps.size;
            int top = 0;
            for (int i = 0; i < n; i++) {
                int step = row[i];
                if (step >= -NAMES && top < TAPE) {
                    stack[top] = step >= 0 ? step : step == -1 ? a : step == -2 ? b : c;
                    top++;
                } else if (step == -'!' && top >= 1) {
                    stack[top - 1] = stack[top - 1] == 0 ? 1 : 0;
                } else if (top >= 2) {
                    top--;
                    int x = stack[top - 1];
                    int y = stack[top];
                    switch (-step) {
                        case '|': x = x != 0 || y != 0 ? 1 : 0; break;
                        case '&': x = x != 0 && y != 0 ? 1 : 0; break;
                        case '<': x = x < y ? 1 : 0; break;
                        case '=': x = x == y ? 1 : 0; break;
                        case '>': x = x > y ? 1 : 0; break;
                        case '+': x += y; break;
                        case '-': x -= y; break;
                        case '*': x *= y; break;
                        case '/': x = y == 0 ? 0 : x / y; break;
                        default: x = y == 0 ? 0 : x % y; break;
                    }
                    stack[top - 1] = x;
                }
            }
            return top >= 1 ? stack[top - 1] : 0;
        }
    }

    /** The TEXTS of both USES. */
    private static final class Laws {
        final Text settling = new Text();
        final Text losing = new Text();

        Text ofUse(int use) {
            return use == 0 ? settling : losing;
        }

        void copyFrom(Laws other) {
            settling.copyFrom(other.settling);
            losing.copyFrom(other.losing);
        }

        int settles(int s, int d, int t) {
            return held(settling.isMissing() ? d : settling.value(s, d, t));
        }

        int loses(int l, int b, int h) {
            if (losing.isMissing()) {
                return h != 0 ? held(l) : 0;
            }
            return held(losing.value(l, b, h));
        }
    }

    /** Reads THE TAPE; it stops at the first byte with which no TEXT goes on. */
    private static final class Reader {
        private static final int OPEN = 5;
        private static final int DIGITS = 4;
        private static final int COMPARING = 2;
        private static final int UNIT = 5;

        final Text read = new Text();
        private final Row tape = new Row(TAPE);
        private String names = "";
        private int at;

        /** The FAULT of THE TAPE as a TEXT of a USE, -1 if there is none. */
        int faultFor(Row of, int use) {
            tape.copyFrom(of);
            names = use == 0 ? "sdt" : "lbh";
            at = 0;
            read.steps.clear();
            return readLevel(0, 0) && at == tape.size ? -1 : at;
        }

        /** Levels are T, A, B, S, P and Q, from 0 to UNIT; open is how many of ! and ( are. */
        private boolean readLevel(int level, int open) {
            if (level >= UNIT) {
                return readUnit(open);
            }
            if (!readLevel(level + 1, open)) {
                return false;
            }
            int most = level == COMPARING ? 1 : TAPE;
            for (int i = 0; i < most && levelOf(next()) == level; i++) {
                int sign = next();
                at++;
                if (!readLevel(level + 1, open)) {
                    return false;
                }
                read.steps.add(-sign);
            }
            return true;
        }

        private boolean readUnit(int open) {
            int sign = next();
            if (isDigit(sign)) {
                readNumber();
                return true;
            }
            if (sign == '!' || sign == '(') {
                return open < OPEN && readOpened(sign, open + 1);
            }
            int name = sign < 0 ? -1 : names.indexOf((char) sign);
            if (name < 0) {
                return false;
            }
            read.steps.add(-1 - name);
            at++;
            return true;
        }

        private boolean readOpened(int sign, int open) {
            at++;
            if (sign == '!') {
                if (!readUnit(open)) {
                    return false;
                }
                read.steps.add(-sign);
                return true;
            }
            if (!readLevel(0, open) || next() != ')') {
                return false;
            }
            at++;
            return true;
        }

        private void readNumber() {
            int number = 0;
            for (int i = 0; i < DIGITS && isDigit(next()); i++) {
                number = 10 * number + next() - '0';
                at++;
            }
            read.steps.add(number);
        }

        private static boolean isDigit(int sign) {
            return sign >= '0' && sign <= '9';
        }

        private static int levelOf(int sign) {
            switch (sign) {
                case '|': return 0;
                case '&': return 1;
                case '<': case '=': case '>': return COMPARING;
                case '+': case '-': return 3;
                case '*': case '/': case '%': return 4;
                default: return -1;
            }
        }

        /** The byte that comes, -1 behind the last one. */
        private int next() {
            return tape.has(at) ? tape.numbers[at] : -1;
        }
    }

    /** All that an IMAGE keeps. */
    private static final class State {
        final Water water = new Water();
        final Laws laws = new Laws();
        final Row tape = new Row(TAPE);
        final Row waiting = new Row(WAITING);
        final int[] wanted = new int[WEARERS];
        int z = 1;

        State() {
            for (int i = 0; i < WEARERS; i++) {
                wanted[i] = 10;
            }
        }

        void copyFrom(State other) {
            water.copyFrom(other.water);
            laws.copyFrom(other.laws);
            tape.copyFrom(other.tape);
            waiting.copyFrom(other.waiting);
            System.arraycopy(other.wanted, 0, wanted, 0, WEARERS);
            z = other.z;
        }

        int draw() {
            z = z * 1103515245 + 12345;
            return z >>> 8;
        }
    }

    /** The VOICES of one BOAT, and which BODIES began. */
    private static final class Voices {
        private static final int DIPS = 0;
        private static final int LIDS = 1;
        private static final int TURNS = 2;
        private static final int TELLS = 3;
        private static final int DEEPEST_CALL = 30;

        final Row began = new Row(40);
        private int number;
        private int kind;
        private int m;

        int begin(int newNumber, int newKind, int newM, int act, int x) {
            number = newNumber;
            kind = newKind;
            m = newM;
            began.clear();
            return call(kind, act, x, 0);
        }

        /** An act by the BODY of a KIND or of the next KIND above that has one. */
        private int call(int from, int act, int x, int open) {
            int k = from;
            for (int i = 0; i < KINDS && k >= 0; i++) {
                int body = bodyOf(k, act);
                if (body > 0 && open < DEEPEST_CALL) {
                    began.add(body);
                    return run(body, k, x, open + 1);
                }
                k = Kinds.above(k);
            }
            return 0;
        }

        /** The BODY that a KIND itself has for an act, 0 if none. */
        private static int bodyOf(int kind, int act) {
            switch (kind) {
                case BOAT: return 10 + act;
                case SKIFF: return act == DIPS ? 20 : 0;
                case PUNT: return act == LIDS ? 30 : 0;
                case SIME: return act == TURNS ? 40 : 0;
                case WHERRY: return act == TELLS ? 50 : 0;
                case RAFT: return act == LIDS ? 60 : 0;
                case GHOST: return act == TURNS ? 70 : act == TELLS ? 71 : 0;
                default: return 0;
            }
        }

        /** What a BODY answers; operands stand in Java's order, from the left, as THE TRACE needs them. */
        private int run(int body, int owner, int x, int open) {
            int up = Kinds.above(owner);
            switch (body) {
                case 10: return x + number;
                case 11: return call(kind, DIPS, x, open) * 2;
                case 12: return x - m;
                case 13: return call(kind, LIDS, x, open) ^ call(kind, TURNS, x, open);
                case 20: return call(up, DIPS, x, open) * 3;
                case 30: return call(up, LIDS, x, open) - call(kind, TURNS, 1, open);
                case 40: return -call(up, TURNS, x, open);
                case 50: return call(up, TELLS, x, open) - call(kind, DIPS, 2, open);
                case 60: return call(up, LIDS, x + 1, open);
                case 70: return call(up, TURNS, x, open) ^ number;
                case 71: return call(kind, LIDS, x, open) - call(up, TELLS, x, open);
                default: return 0;
            }
        }
    }

    /** The best matching: for each WEARER and set of BOATS taken ahead, how much it and those behind it are served. */
    private static final class Matching {
        private final int[] served = new int[(WEARERS + 1) << BOATS];
        private final int[] wanted = new int[WEARERS];
        private final int[] barrel = new int[BOATS];
        private int boats;

        void fill(State of) {
            boats = of.water.boats;
            System.arraycopy(of.wanted, 0, wanted, 0, WEARERS);
            System.arraycopy(of.water.barrel, 0, barrel, 0, BOATS);
            for (int wearer = WEARERS - 1; wearer >= 0; wearer--) {
                for (int taken = 0; taken < 1 << boats; taken++) {
                    served[slot(wearer, taken)] = mostFrom(wearer, taken);
                }
            }
        }

        int mostServed() {
            return served[0];
        }

        int boatOf(int wearer) {
            int taken = 0;
            int boat = BOATS;
            for (int w = 0; w <= wearer; w++) {
                boat = firstBest(w, taken);
                taken = boat < BOATS ? taken | (1 << boat) : taken;
            }
            return boat;
        }

        private int firstBest(int wearer, int taken) {
            int most = served[slot(wearer, taken)];
            for (int b = 0; b < boats; b++) {
                if (isFree(b, taken) && withBoat(wearer, taken, b) == most) {
                    return b;
                }
            }
            return BOATS;
        }

        private int mostFrom(int wearer, int taken) {
            int most = served[slot(wearer + 1, taken)];
            for (int b = 0; b < boats; b++) {
                if (isFree(b, taken)) {
                    most = Math.max(most, withBoat(wearer, taken, b));
                }
            }
            return most;
        }

        private static boolean isFree(int b, int taken) {
            return ((taken >> b) & 1) == 0;
        }

        private int withBoat(int wearer, int taken, int b) {
            return Math.min(wanted[wearer], barrel[b]) + served[slot(wearer + 1, taken | (1 << b))];
        }

        private static int slot(int wearer, int taken) {
            return (wearer << BOATS) | taken;
        }
    }
}
