import java.util.NoSuchElementException;

/**
 * A river city by dye: streets with their vats, people born white, stocks of three dyes, a law of
 * who may sit, work that dips and washes, and questions about all of these.
 *
 * <p>A shade is told as one number, 100 madder, 10 indigo and weld together.
 */
public final class DyeStreets {
    public static final int NONE = -1;

    private static final int DYES = 3;
    private static final int SHADES = 1000;
    private static final int MOST_OF_DYE = 9;
    private static final int MOST_STREETS = 6;
    private static final int MOST_PEOPLE = 8;
    private static final int MOST_CLAUSES = 60;
    private static final int MOST_AGE = 60;
    private static final int MOST_RIVER = 20;
    private static final int FIRST_RIVER = 5;
    private static final int FIRST_STOCK = 50;
    private static final int FULL_STOCK = 200;
    private static final int LAST_YEAR = 300;
    private static final int MOST_APART = 6;

    private static final int TAPE_BYTES = 600;
    private static final int FED_BYTES = 20;
    private static final int LAW_BYTES = 150;
    private static final int WORK_BYTES = 150;
    private static final int BOOK_BYTES = 60;
    private static final int MOST_OPEN = 6;

    private static final int FOREIGN = 1;
    private static final int NONE_SUCH = 2;
    private static final int TOO_MANY = 3;
    private static final int FAULT_LESS = 10;
    private static final int HUGE = 1000000;

    // the order of words in a list is that of the numbers that stand for them
    private static final String CLAUSE_WORDS = "street person stock river ";
    private static final int STREET = 0;
    private static final int PERSON = 1;
    private static final int STORE = 2;

    private static final int SHADE = 0;
    private static final int AGE = 1;
    private static final int SALT = 2;
    private static final int SPOUSE = 3;
    private static final int DIPS = 4;
    private static final int KINDS = 5;
    private static final int STOCKS_AT = KINDS * MOST_PEOPLE;
    private static final int YEAR_AT = STOCKS_AT + DYES;
    private static final int TOWN_CELLS = YEAR_AT + 1;

    private static final String LAW_WORDS =
            "madder indigo weld dark age rank dips year birth least most ";
    private static final int FACTS = 9;
    private static final int FACT = 1000;
    private static final int SIGN = 2000;
    private static final int LEAST = SIGN;
    private static final int MOST = SIGN + 1;
    private static final int PLUS = SIGN + 2;
    private static final int MINUS = SIGN + 3;
    private static final int TIMES = SIGN + 4;
    private static final int OVER = SIGN + 5;

    private static final String STEP_WORDS = "dip wash salt rain marry year again ";
    private static final int DIP = 0;
    private static final int WASH = 1;
    private static final int SALTING = 2;
    private static final int RAIN = 3;
    private static final int MARRY = 4;
    private static final int YEAR = 5;
    private static final int AGAIN = 6;
    private static final int AGAIN_END = 7;
    private static final int MOST_AGAIN = 60;
    private static final int MOST_STEPS = 200;

    private static final int MOST_WORKS = 16;
    private static final int MOST_IMAGES = 3;
    private static final int WORKS_FULL = -20;
    private static final int IMAGE_CELLS = (MOST_WORKS + 1) * TOWN_CELLS;

    private static final int WHEN_YEARS = 60;
    private static final int ENOUGH_YEARS = 100;
    private static final int PAIR_WORTH = 100;

    private final Text text = new Text();
    private final Town town = new Town();
    private final Town thought = new Town();
    private final Law law = new Law();
    private final Book book = new Book();
    private final Plan plan = new Plan();
    private final History history = new History();
    private final Palette palette = new Palette();
    private final Couples couples = new Couples();
    private final Fate fate = new Fate();
    private final int[] goers = new int[MOST_STREETS * MOST_STREETS];
    private City city = new City();
    private int refusedSteps;
    private int missingCalls;
    private int illegalCalls;

    public DyeStreets() {
    }

    // ---- what is told to the city

    public int feed(int a, int b, int c, int d, int e) {
        if (!text.hasRoom()) {
            return NONE;
        }
        text.add(a);
        text.add(b);
        text.add(c);
        text.add(d);
        text.add(e);
        return text.fed;
    }

    public int city(int n) throws IllegalArgumentException {
        demand(text.has(n, TAPE_BYTES));
        text.open(n);
        City told = new City();
        told.read(text);
        if (text.failed()) {
            return text.verdict();
        }
        city = told;
        town.settle(told);
        law.repeal();
        book.clear();
        history.clear();
        refusedSteps = 0;
        return city.people;
    }

    public int law(int n) throws IllegalArgumentException {
        demand(text.has(n, LAW_BYTES));
        text.open(n);
        law.read(text);
        return text.failed() ? text.verdict() : 1;
    }

    public int work(int n) throws IllegalArgumentException {
        demand(text.has(n, WORK_BYTES));
        if (history.works >= MOST_WORKS) {
            text.open(0);
            return WORKS_FULL;
        }
        text.open(n);
        plan.read(text, city);
        if (text.failed()) {
            return text.verdict();
        }
        history.remember(town);
        plan.carryOut(city, town);
        refusedSteps = plan.refused;
        return plan.done;
    }

    public int book(int n) throws IllegalArgumentException {
        demand(text.has(n, BOOK_BYTES));
        text.open(n);
        book.read(text);
        return text.failed() ? text.verdict() : book.lines;
    }

    public int fault() {
        return text.place;
    }

    public int undo() {
        if (history.works <= 0) {
            return NONE;
        }
        history.takeBack(town);
        refusedSteps = 0;
        return history.works;
    }

    // ---- what is there

    public int told(int what) throws IllegalArgumentException {
        demand(what >= 0 && what <= 9);
        switch (what) {
            case 0: return city.streets;
            case 1: return city.people;
            case 2: return town.year();
            case 3: return seated(town);
            case 4: return town.married(city.people);
            case 5: return city.people - town.unsalted(city.people);
            case 6: return book.lines;
            case 7: return refusedSteps;
            case 8: return town.unlikeShades(city.people);
            default: return city.river;
        }
    }

    public int street(int street, int what) throws NoSuchElementException, IllegalArgumentException {
        demandThere(city.hasStreet(street));
        demand(what >= 0 && what <= 3);
        switch (what) {
            case 0: return city.vatOf(street);
            case 1: return city.rankOf(street);
            case 2: return seeming(street);
            default: return city.bornIn(street);
        }
    }

    public int person(int person, int what) throws NoSuchElementException, IllegalArgumentException {
        demandThere(city.hasPerson(person));
        demand(what >= 0 && what <= 7);
        switch (what) {
            case 0: return city.homeOf(person);
            case 1: return town.has(person, AGE);
            case 2: return town.has(person, SHADE);
            case 3: return city.nearest(town.has(person, SHADE));
            case 4: return town.has(person, DIPS);
            case 5: return town.has(person, SPOUSE);
            case 6: return town.has(person, SALT);
            default: return isSeated(town, person) ? 1 : 0;
        }
    }

    public int stock(int dye) throws NoSuchElementException {
        demandThere(isDye(dye));
        return town.stored(dye);
    }

    public boolean would(int shade, int age, int rank, int dips, int year, int birth)
            throws IllegalArgumentException {
        demand(isShade(shade) && age >= 0 && age <= 400 && rank >= 0 && rank <= 9);
        demand(dips >= 0 && dips <= 99 && year >= 0 && year <= LAST_YEAR && birth >= 0 && birth <= 1);
        return law.seats(shade, age, rank, dips, year, birth);
    }

    public int distance(int shade, int other) throws IllegalArgumentException {
        demand(isShade(shade) && isShade(other));
        return apart(shade, other);
    }

    public int seems(int shade) throws IllegalArgumentException {
        demand(isShade(shade));
        return city.nearest(shade);
    }

    public int dipped(int shade, int street) throws NoSuchElementException, IllegalArgumentException {
        demandThere(city.hasStreet(street));
        demand(isShade(shade));
        return deeper(shade, city.vatOf(street));
    }

    public int cousins() {
        return town.rainShade(city.people);
    }

    // ---- years that go by

    public int when(int person, int how) throws NoSuchElementException, IllegalArgumentException {
        demandThere(city.hasPerson(person));
        demand(how == 0 || how == 1);
        thought.copyFrom(town);
        for (int years = 0; years <= WHEN_YEARS; years++) {
            if (isSeated(thought, person) == (how == 1)) {
                return years;
            }
            thought.passYear(city.people, city.river);
        }
        return NONE;
    }

    public int sits(int person, int n) throws NoSuchElementException, IllegalArgumentException {
        demandThere(city.hasPerson(person));
        demand(n >= 0 && n <= 30);
        thought.copyFrom(town);
        int bits = 0;
        for (int years = 0; years < n; years++) {
            if (isSeated(thought, person)) {
                bits |= 1 << years;
            }
            thought.passYear(city.people, city.river);
        }
        return bits;
    }

    // ---- shades and dips

    public int way(int shade, int other) throws IllegalArgumentException {
        demand(isShade(shade) && isShade(other));
        return palette.fewestDips(city, shade, other);
    }

    public int step(int shade, int other, int k) throws IllegalArgumentException {
        demand(isShade(shade) && isShade(other) && k >= 0);
        return palette.dipOnTheWay(city, shade, other, k);
    }

    public int sums(int shade, int what) throws IllegalArgumentException {
        demand(isShade(shade) && what >= 0 && what <= 1);
        palette.mixAll(city);
        return what == 0 ? palette.mixesOf(shade) : palette.dipsOf(shade);
    }

    public int tones(int shade) throws IllegalArgumentException {
        demand(isShade(shade));
        return palette.reachable(city, shade);
    }

    // ---- children and marriages

    public int fits(int what) throws IllegalArgumentException {
        demand(what >= 0 && what <= 1);
        return what == 0 ? book.allFits(town, city.people) : book.firstFit(town, city.people);
    }

    public int look(int what) throws IllegalArgumentException {
        demand(what >= 0 && what <= 1);
        int chosen = NONE;
        int fewest = NONE;
        for (int dye = 0; dye < DYES; dye++) {
            if (!book.tells(dye)) {
                int most = book.mostLeft(town, city.people, dye);
                if (chosen == NONE || most < fewest) {
                    chosen = dye;
                    fewest = most;
                }
            }
        }
        return what == 0 ? chosen : fewest;
    }

    public int match(int what) throws IllegalArgumentException {
        demand(what >= 0 && what <= 1);
        couples.arrange(city, town);
        return what == 0 ? couples.pairs : couples.distances;
    }

    public int bride(int person) throws NoSuchElementException {
        demandThere(city.hasPerson(person));
        couples.arrange(city, town);
        return couples.partnerOf(person);
    }

    // ---- stocks

    public int enough(int streets) throws IllegalArgumentException {
        demand(streets >= 0 && streets < 1 << city.streets);
        for (int years = 0; years <= ENOUGH_YEARS; years++) {
            if (suffices(streets, years)) {
                return years;
            }
        }
        return NONE;
    }

    public int level(int dye, int n) throws NoSuchElementException, IllegalArgumentException {
        demandThere(isDye(dye));
        demand(n >= 1 && n <= 99);
        for (int bound = MOST_OF_DYE; bound > 0; bound--) {
            if (bound * n <= town.stored(dye)) {
                return bound;
            }
        }
        return 0;
    }

    // ---- witnesses and guilds

    public long night(int n, int q, int part) throws IllegalArgumentException {
        demand(n >= 1 && n <= 9 && n % 2 == 1);
        demand(q >= 0 && q <= 16 && part >= 0 && part <= 1);
        long above = mostRight(n, q);
        long below = power(16, n);
        // 16 has no prime but 2 in it: halving alone leads to the least terms
        for (int k = 0; k < 4 * n && above % 2 == 0; k++) {
            above /= 2;
            below /= 2;
        }
        return part == 0 ? above : below;
    }

    public int guilds(int what) throws IllegalArgumentException {
        demand(what >= 0 && what <= 2);
        countGoers();
        int rests = 0;
        int first = NONE;
        int both = 0;
        for (int one = 0; one < city.streets; one++) {
            for (int other = 0; other < city.streets; other++) {
                if (restsAt(one, other)) {
                    if (rests == 0) {
                        first = 10 * one + other;
                        both = goersTo(one, other) + goersTo(other, one);
                    }
                    rests++;
                }
            }
        }
        return what == 0 ? rests : what == 1 ? first : both;
    }

    public int follows(int street, int other) throws NoSuchElementException {
        demandThere(city.hasStreet(street) && city.hasStreet(other));
        return preferring(city.vatOf(street), city.vatOf(other));
    }

    // ---- what is to come

    public int ahead(int years, int what) throws IllegalArgumentException {
        demand(years >= 0 && years <= 100 && what >= 0 && what <= 2);
        thought.copyFrom(town);
        for (int k = 0; k < years; k++) {
            thought.passYear(city.people, city.river);
        }
        switch (what) {
            case 0: return seated(thought);
            case 1: return thought.allDyes(city.people);
            default: return thought.unlikeShades(city.people);
        }
    }

    public int ages(int seed, int q, int years, int what) throws IllegalArgumentException {
        demand(q >= 0 && q <= 16 && years >= 1 && years <= 96 && what >= 0 && what <= 3);
        thought.copyFrom(town);
        fate.live(city, thought, seed, q, years);
        switch (what) {
            case 0: return seated(thought);
            case 1: return fate.dips;
            case 2: return fate.rains;
            default: return thought.unlikeShades(city.people);
        }
    }

    public int span(int seed, int many, int q, int years, int what) throws IllegalArgumentException {
        demand(many >= 1 && many <= 20 && q >= 0 && q <= 16);
        demand(years >= 1 && years <= 96 && what >= 0 && what <= 2);
        int fewest = MOST_PEOPLE;
        int most = 0;
        int unseated = 0;
        for (int k = 0; k < many; k++) {
            thought.copyFrom(town);
            fate.live(city, thought, seed + k, q, years);
            int shades = thought.unlikeShades(city.people);
            fewest = Math.min(fewest, shades);
            most = Math.max(most, shades);
            if (seated(thought) == 0) {
                unseated++;
            }
        }
        return what == 0 ? fewest : what == 1 ? most : unseated;
    }

    // ---- images and counts

    public int image() {
        if (history.images >= MOST_IMAGES) {
            return NONE;
        }
        history.keepImage(town);
        return history.images;
    }

    public int restore() {
        if (history.images <= 0) {
            return NONE;
        }
        history.bringBack(town);
        refusedSteps = 0;
        return history.images;
    }

    public int status(int what) {
        switch (what) {
            case 0: return missingCalls;
            case 1: return illegalCalls;
            default: return NONE;
        }
    }

    public int count(int what) {
        switch (what) {
            case 0: return history.images;
            case 1: return text.fed;
            case 2: return history.works;
            default: return NONE;
        }
    }

    // ---- refusals

    private void demand(boolean holds) {
        if (!holds) {
            illegalCalls++;
            throw new IllegalArgumentException();
        }
    }

    private void demandThere(boolean there) {
        if (!there) {
            missingCalls++;
            throw new NoSuchElementException();
        }
    }

    // ---- people of this city in a town of now or of a thought

    private boolean isSeated(Town when, int person) {
        int shade = when.has(person, SHADE);
        int street = city.nearest(shade);
        int birth = street == city.homeOf(person) ? 1 : 0;
        return law.seats(shade, when.has(person, AGE), city.rankOf(street),
                when.has(person, DIPS), when.year(), birth);
    }

    private int seated(Town when) {
        int many = 0;
        for (int p = 0; p < city.people; p++) {
            if (isSeated(when, p)) {
                many++;
            }
        }
        return many;
    }

    private int seeming(int street) {
        int many = 0;
        for (int p = 0; p < city.people; p++) {
            if (city.nearest(town.has(p, SHADE)) == street) {
                many++;
            }
        }
        return many;
    }

    private boolean suffices(int streets, int years) {
        for (int dye = 0; dye < DYES; dye++) {
            int need = 0;
            for (int s = 0; s < city.streets; s++) {
                if ((streets >> s & 1) == 1) {
                    need += partOf(city.vatOf(s), dye);
                }
            }
            if (Math.min(FULL_STOCK, town.stored(dye) + years * city.river) < need) {
                return false;
            }
        }
        return true;
    }

    // ---- guilds

    private int preferring(int vat, int otherVat) {
        int many = 0;
        for (int p = 0; p < city.people; p++) {
            int shade = town.has(p, SHADE);
            if (apart(shade, vat) < apart(shade, otherVat)) {
                many++;
            }
        }
        return many;
    }

    private void countGoers() {
        for (int one = 0; one < city.streets; one++) {
            for (int other = 0; other < city.streets; other++) {
                int many = preferring(city.vatOf(one), city.vatOf(other));
                put(goers, one * MOST_STREETS + other, many);
            }
        }
    }

    private int goersTo(int one, int other) {
        return at(goers, one * MOST_STREETS + other);
    }

    private boolean restsAt(int one, int other) {
        for (int s = 0; s < city.streets; s++) {
            if (goersTo(s, other) > goersTo(one, other) || goersTo(s, one) > goersTo(other, one)) {
                return false;
            }
        }
        return true;
    }

    // ---- numbers

    /** Of all the 16 to the n cases, those in which more than half of n are right. */
    private static long mostRight(int n, int q) {
        long cases = 0;
        // the bits of who are the witnesses that are right
        for (int who = 0; who < 1 << n; who++) {
            int right = Integer.bitCount(who);
            if (2 * right > n) {
                cases += power(q, right) * power(16 - q, n - right);
            }
        }
        return cases;
    }

    private static long power(int base, int times) {
        long result = 1;
        for (int k = 0; k < times; k++) {
            result *= base;
        }
        return result;
    }

    // ---- rows, read and written only where they are

    private static int at(int[] row, int k) {
        return k >= 0 && k < row.length ? row[k] : 0;
    }

    private static void put(int[] row, int k, int value) {
        if (k >= 0 && k < row.length) {
            row[k] = value;
        }
    }

    private static void copy(int[] from, int fromAt, int[] to, int toAt, int many) {
        for (int k = 0; k < many; k++) {
            put(to, toAt + k, at(from, fromAt + k));
        }
    }

    private static void fill(int[] row, int value) {
        for (int k = 0; k < row.length; k++) {
            row[k] = value;
        }
    }

    // ---- shades

    private static boolean isDye(int dye) {
        return dye >= 0 && dye < DYES;
    }

    private static boolean isShade(int shade) {
        return shade >= 0 && shade < SHADES;
    }

    private static int unitOf(int dye) {
        return dye == 0 ? 100 : dye == 1 ? 10 : 1;
    }

    private static int partOf(int shade, int dye) {
        switch (dye) {
            case 0: return shade / 100 % 10;
            case 1: return shade / 10 % 10;
            default: return shade % 10;
        }
    }

    private static int darkness(int shade) {
        return partOf(shade, 0) + partOf(shade, 1) + partOf(shade, 2);
    }

    private static int apart(int shade, int other) {
        int sum = 0;
        for (int dye = 0; dye < DYES; dye++) {
            sum += Math.abs(partOf(shade, dye) - partOf(other, dye));
        }
        return sum;
    }

    private static int deeper(int shade, int vat) {
        int result = 0;
        for (int dye = 0; dye < DYES; dye++) {
            int part = Math.min(MOST_OF_DYE, partOf(shade, dye) + partOf(vat, dye));
            result += part * unitOf(dye);
        }
        return result;
    }

    private static int paler(int shade, int dye) {
        return partOf(shade, dye) > 0 ? shade - unitOf(dye) : shade;
    }

    private static boolean holds(int shade, int vat) {
        return partOf(shade, 0) >= partOf(vat, 0) && partOf(shade, 1) >= partOf(vat, 1)
                && partOf(shade, 2) >= partOf(vat, 2);
    }

    private static boolean isDigit(int sign) {
        return sign >= '0' && sign <= '9';
    }

    private static boolean isLetter(int sign) {
        return sign >= 'a' && sign <= 'z';
    }

    /** The tape, and the text that is read from its front; it stops at the first fault. */
    private static final class Text {
        private final int[] tape = new int[TAPE_BYTES];
        private int fed;
        private int length;
        private int here;
        /** The first byte of what was taken last. */
        private int mark;
        private int kind;
        private int place = NONE;

        boolean hasRoom() {
            return fed + FED_BYTES <= TAPE_BYTES;
        }

        void add(int number) {
            for (int shift = 24; shift >= 0; shift -= 8) {
                put(tape, fed, number >>> shift & 255);
                fed++;
            }
        }

        boolean has(int bytes, int most) {
            return bytes >= 0 && bytes <= fed && bytes <= most;
        }

        /** The bytes stay where they are until others are fed. */
        void open(int bytes) {
            length = bytes;
            fed = 0;
            here = 0;
            kind = 0;
            place = NONE;
            pass(0);
        }

        boolean failed() {
            return kind != 0;
        }

        int verdict() {
            return kind - FAULT_LESS;
        }

        /** The byte that comes next and is no blank; NONE at the end. */
        int next() {
            return byteAt(here);
        }

        /** A text is read from its left on, so the fault that comes first is the one that counts. */
        void fail(int which, int where) {
            if (kind == 0) {
                kind = which;
                place = where;
            }
        }

        boolean takesSign(char sign) {
            if (failed() || byteAt(here) != sign) {
                return false;
            }
            pass(1);
            return true;
        }

        void needSign(char sign) {
            if (failed() || byteAt(here) != sign) {
                fail(FOREIGN, here);
            } else {
                pass(1);
            }
        }

        /** Which of the words, a blank behind each, comes next, and takes it; NONE, if none does. */
        int takesWordOf(String words) {
            int which = 0;
            int start = 0;
            for (int k = 0; k < words.length(); k++) {
                if (words.charAt(k) == ' ') {
                    if (comesNext(words, start, k)) {
                        pass(k - start);
                        return which;
                    }
                    which++;
                    start = k + 1;
                }
            }
            return NONE;
        }

        private boolean comesNext(String words, int start, int end) {
            for (int k = start; k >= 0 && k < end && k < words.length(); k++) {
                if (byteAt(here + k - start) != words.charAt(k)) {
                    return false;
                }
            }
            return !failed() && !isLetter(byteAt(here + end - start));
        }

        int needNumber(int most) {
            if (failed() || !isDigit(byteAt(here))) {
                fail(FOREIGN, here);
                return 0;
            }
            int many = 0;
            int value = 0;
            for (; many < length && isDigit(byteAt(here + many)); many++) {
                value = Math.min(HUGE, value * 10 + byteAt(here + many) - '0');
            }
            pass(many);
            if (value > most) {
                fail(NONE_SUCH, mark);
            }
            return value;
        }

        private void pass(int bytes) {
            mark = here;
            here += bytes;
            while (here >= 0 && here < length && here < tape.length && tape[here] == ' ') {
                here++;
            }
        }

        private int byteAt(int k) {
            return k >= 0 && k < length && k < tape.length ? tape[k] : NONE;
        }
    }

    /** What stays as it was told: streets, where people are from, what was in stock at first. */
    private static final class City {
        private final int[] vats = new int[MOST_STREETS];
        private final int[] ranks = new int[MOST_STREETS];
        private final int[] homes = new int[MOST_PEOPLE];
        private final int[] firstAges = new int[MOST_PEOPLE];
        private final int[] firstStocks = {FIRST_STOCK, FIRST_STOCK, FIRST_STOCK};
        private int streets;
        private int people;
        private int river = FIRST_RIVER;

        void read(Text text) {
            for (int k = 0; k < TAPE_BYTES && !text.failed() && text.next() != NONE; k++) {
                readClause(text, k);
                text.needSign(';');
            }
        }

        private void readClause(Text text, int before) {
            int kind = text.takesWordOf(CLAUSE_WORDS);
            boolean full = before >= MOST_CLAUSES
                    || kind == STREET && streets >= MOST_STREETS
                    || kind == PERSON && people >= MOST_PEOPLE;
            if (kind == NONE) {
                text.fail(FOREIGN, text.here);
            } else if (full) {
                text.fail(TOO_MANY, text.mark);
            } else {
                readRest(text, kind);
            }
        }

        private void readRest(Text text, int kind) {
            if (kind == STREET) {
                int vat = 0;
                for (int dye = 0; dye < DYES; dye++) {
                    vat += text.needNumber(MOST_OF_DYE) * unitOf(dye);
                }
                put(vats, streets, vat);
                put(ranks, streets, text.needNumber(9));
                streets++;
            } else if (kind == PERSON) {
                put(homes, people, text.needNumber(streets - 1));
                put(firstAges, people, text.needNumber(MOST_AGE));
                people++;
            } else if (kind == STORE) {
                int dye = text.needNumber(DYES - 1);
                put(firstStocks, dye, text.needNumber(FULL_STOCK));
            } else {
                river = text.needNumber(MOST_RIVER);
            }
        }

        boolean hasStreet(int street) {
            return street >= 0 && street < streets;
        }

        boolean hasPerson(int person) {
            return person >= 0 && person < people;
        }

        int vatOf(int street) {
            return at(vats, street);
        }

        /** The rank of a street; 0 of NONE. */
        int rankOf(int street) {
            return at(ranks, street);
        }

        int homeOf(int person) {
            return at(homes, person);
        }

        int bornIn(int street) {
            int many = 0;
            for (int p = 0; p < people; p++) {
                if (homeOf(p) == street) {
                    many++;
                }
            }
            return many;
        }

        /** The street that one of such shade seems of. */
        int nearest(int shade) {
            int best = NONE;
            int least = 0;
            for (int s = 0; s < streets; s++) {
                int far = apart(shade, vatOf(s));
                if (best == NONE || far < least) {
                    best = s;
                    least = far;
                }
            }
            return best;
        }
    }

    /** All that work changes, in one row, so that a town can be kept and brought back whole. */
    private static final class Town {
        private final int[] cells = new int[TOWN_CELLS];

        Town() {
            for (int k = STOCKS_AT; k < YEAR_AT && k < cells.length; k++) {
                cells[k] = FIRST_STOCK;
            }
        }

        void settle(City city) {
            fill(cells, 0);
            for (int p = 0; p < city.people; p++) {
                set(p, AGE, at(city.firstAges, p));
                set(p, SPOUSE, NONE);
            }
            copy(city.firstStocks, 0, cells, STOCKS_AT, DYES);
        }

        void copyFrom(Town other) {
            copy(other.cells, 0, cells, 0, TOWN_CELLS);
        }

        void saveTo(int[] row, int start) {
            copy(cells, 0, row, start, TOWN_CELLS);
        }

        void loadFrom(int[] row, int start) {
            copy(row, start, cells, 0, TOWN_CELLS);
        }

        int has(int person, int kind) {
            return at(cells, person * KINDS + kind);
        }

        private void set(int person, int kind, int value) {
            put(cells, person * KINDS + kind, value);
        }

        int stored(int dye) {
            return at(cells, STOCKS_AT + dye);
        }

        int year() {
            return at(cells, YEAR_AT);
        }

        boolean dip(int person, int vat) {
            int shade = has(person, SHADE);
            int dyed = deeper(shade, vat);
            if (dyed == shade || !affords(vat)) {
                return false;
            }
            for (int dye = 0; dye < DYES; dye++) {
                put(cells, STOCKS_AT + dye, stored(dye) - partOf(vat, dye));
            }
            set(person, SHADE, dyed);
            set(person, DIPS, has(person, DIPS) + 1);
            return true;
        }

        private boolean affords(int vat) {
            for (int dye = 0; dye < DYES; dye++) {
                if (stored(dye) < partOf(vat, dye)) {
                    return false;
                }
            }
            return true;
        }

        boolean wash(int person) {
            int shade = has(person, SHADE);
            if (shade == 0) {
                return false;
            }
            for (int dye = 0; dye < DYES; dye++) {
                shade = paler(shade, dye);
            }
            set(person, SHADE, shade);
            set(person, SALT, 0);
            return true;
        }

        boolean salt(int person) {
            if (has(person, SALT) == 1) {
                return false;
            }
            set(person, SALT, 1);
            return true;
        }

        boolean rain(int people) {
            int shade = rainShade(people);
            if (shade == NONE) {
                return false;
            }
            for (int p = 0; p < people; p++) {
                if (has(p, SALT) == 0) {
                    set(p, SHADE, shade);
                }
            }
            return true;
        }

        /** The shade that rain would leave; NONE, if it can't rain. */
        int rainShade(int people) {
            int many = unsalted(people);
            if (many < 2) {
                return NONE;
            }
            int shade = 0;
            for (int dye = 0; dye < DYES; dye++) {
                int sum = 0;
                for (int p = 0; p < people; p++) {
                    sum += has(p, SALT) == 0 ? partOf(has(p, SHADE), dye) : 0;
                }
                shade += sum / many * unitOf(dye);
            }
            return shade;
        }

        boolean marry(int one, int other) {
            if (has(one, SPOUSE) != NONE || has(other, SPOUSE) != NONE
                    || apart(has(one, SHADE), has(other, SHADE)) > MOST_APART) {
                return false;
            }
            set(one, SPOUSE, other);
            set(other, SPOUSE, one);
            return true;
        }

        void passYear(int people, int river) {
            int fading = year() % DYES;
            for (int p = 0; p < people; p++) {
                if (has(p, SALT) == 0) {
                    set(p, SHADE, paler(has(p, SHADE), fading));
                }
                set(p, SALT, 0);
                set(p, AGE, has(p, AGE) + 1);
            }
            for (int dye = 0; dye < DYES; dye++) {
                put(cells, STOCKS_AT + dye, Math.min(FULL_STOCK, stored(dye) + river));
            }
            put(cells, YEAR_AT, year() + 1);
        }

        int unsalted(int people) {
            int many = 0;
            for (int p = 0; p < people; p++) {
                if (has(p, SALT) == 0) {
                    many++;
                }
            }
            return many;
        }

        int married(int people) {
            int many = 0;
            for (int p = 0; p < people; p++) {
                if (has(p, SPOUSE) != NONE) {
                    many++;
                }
            }
            return many;
        }

        int allDyes(int people) {
            int sum = 0;
            for (int p = 0; p < people; p++) {
                sum += darkness(has(p, SHADE));
            }
            return sum;
        }

        int unlikeShades(int people) {
            int many = 0;
            for (int p = 0; p < people; p++) {
                boolean isNew = true;
                for (int before = 0; before < p; before++) {
                    if (has(before, SHADE) == has(p, SHADE)) {
                        isNew = false;
                    }
                }
                if (isNew) {
                    many++;
                }
            }
            return many;
        }
    }

    /** Who may sit: the law's numbers, facts and signs, each sign behind what it joins. */
    private static final class Law {
        // each entry stands for a byte of the text at least, so the rows are long enough
        private final int[] code = new int[LAW_BYTES];
        private final int[] draft = new int[LAW_BYTES];
        private final int[] pile = new int[LAW_BYTES];
        private final int[] facts = new int[FACTS];
        private int entries;
        private int drafted;
        private boolean given;

        void repeal() {
            given = false;
        }

        void read(Text text) {
            drafted = 0;
            readSum(text, 0);
            if (text.next() != NONE) {
                text.fail(FOREIGN, text.here);
            }
            if (!text.failed()) {
                copy(draft, 0, code, 0, drafted);
                entries = drafted;
                given = true;
            }
        }

        private void readSum(Text text, int open) {
            readProduct(text, open);
            for (int k = 0; k < LAW_BYTES && !text.failed(); k++) {
                if (text.takesSign('+')) {
                    readProduct(text, open);
                    write(PLUS);
                } else if (text.takesSign('-')) {
                    readProduct(text, open);
                    write(MINUS);
                } else {
                    return;
                }
            }
        }

        private void readProduct(Text text, int open) {
            readUnit(text, open);
            for (int k = 0; k < LAW_BYTES && !text.failed(); k++) {
                if (text.takesSign('*')) {
                    readUnit(text, open);
                    write(TIMES);
                } else if (text.takesSign('/')) {
                    readUnit(text, open);
                    write(OVER);
                } else {
                    return;
                }
            }
        }

        private void readUnit(Text text, int open) {
            if (isDigit(text.next())) {
                write(text.needNumber(FACT - 1));
                return;
            }
            if (text.takesSign('(')) {
                if (!isDeepest(text, open)) {
                    readSum(text, open + 1);
                    text.needSign(')');
                }
                return;
            }
            int word = text.takesWordOf(LAW_WORDS);
            if (word == NONE) {
                text.fail(FOREIGN, text.here);
            } else if (word < FACTS) {
                write(FACT + word);
            } else {
                readTwo(text, open, SIGN + word - FACTS);
            }
        }

        private void readTwo(Text text, int open, int sign) {
            if (isDeepest(text, open)) {
                return;
            }
            text.needSign('[');
            readSum(text, open + 1);
            text.needSign(',');
            readSum(text, open + 1);
            text.needSign(']');
            write(sign);
        }

        private static boolean isDeepest(Text text, int open) {
            if (open < MOST_OPEN) {
                return false;
            }
            text.fail(TOO_MANY, text.mark);
            return true;
        }

        private void write(int entry) {
            put(draft, drafted, entry);
            drafted++;
        }

        boolean seats(int shade, int age, int rank, int dips, int year, int birth) {
            if (!given) {
                return darkness(shade) - 9 > 0;
            }
            // in the order of the law's words
            for (int dye = 0; dye < DYES; dye++) {
                put(facts, dye, partOf(shade, dye));
            }
            put(facts, 3, darkness(shade));
            put(facts, 4, age);
            put(facts, 5, rank);
            put(facts, 6, dips);
            put(facts, 7, year);
            put(facts, 8, birth);
            return worth() > 0;
        }

        private int worth() {
            int top = 0;
            for (int k = 0; k < entries; k++) {
                int entry = at(code, k);
                if (entry >= SIGN) {
                    top--;
                    put(pile, top - 1, joined(entry, at(pile, top - 1), at(pile, top)));
                } else {
                    put(pile, top, entry >= FACT ? at(facts, entry - FACT) : entry);
                    top++;
                }
            }
            return at(pile, 0);
        }

        private static int joined(int sign, int a, int b) {
            switch (sign) {
                case PLUS: return a + b;
                case MINUS: return a - b;
                case TIMES: return a * b;
                case LEAST: return Math.min(a, b);
                case MOST: return Math.max(a, b);
                default: return b == 0 ? 0 : a / b;
            }
        }
    }

    /** What a child has, by the book. */
    private static final class Book {
        private final int[] values = {NONE, NONE, NONE};
        private final int[] draft = new int[DYES];
        private int lines;

        void clear() {
            fill(values, NONE);
            lines = 0;
        }

        /** A fourth line tells a dye twice, or none: the lesser fault is the one that counts. */
        void read(Text text) {
            fill(draft, NONE);
            int many = 0;
            for (; many < BOOK_BYTES && !text.failed() && text.next() != NONE; many++) {
                int dye = text.needNumber(DYES - 1);
                if (at(draft, dye) != NONE) {
                    text.fail(NONE_SUCH, text.mark);
                }
                put(draft, dye, text.needNumber(MOST_OF_DYE));
                text.needSign(';');
            }
            if (!text.failed()) {
                copy(draft, 0, values, 0, DYES);
                lines = many;
            }
        }

        boolean tells(int dye) {
            return at(values, dye) != NONE;
        }

        private boolean mayBear(int shade, int other) {
            for (int dye = 0; dye < DYES; dye++) {
                int value = at(values, dye);
                if (value != NONE && partOf(shade, dye) != value && partOf(other, dye) != value) {
                    return false;
                }
            }
            return true;
        }

        int allFits(Town town, int people) {
            int many = 0;
            for (int one = 0; one < people; one++) {
                for (int other = one + 1; other < people; other++) {
                    if (mayBear(town.has(one, SHADE), town.has(other, SHADE))) {
                        many++;
                    }
                }
            }
            return many;
        }

        int firstFit(Town town, int people) {
            for (int one = 0; one < people; one++) {
                for (int other = one + 1; other < people; other++) {
                    if (mayBear(town.has(one, SHADE), town.has(other, SHADE))) {
                        return 10 * one + other;
                    }
                }
            }
            return NONE;
        }

        int mostLeft(Town town, int people, int dye) {
            int most = 0;
            for (int value = 0; value <= MOST_OF_DYE; value++) {
                most = Math.max(most, left(town, people, dye, value));
            }
            return most;
        }

        private int left(Town town, int people, int dye, int value) {
            int many = 0;
            for (int one = 0; one < people; one++) {
                int shade = town.has(one, SHADE);
                for (int two = one + 1; two < people; two++) {
                    int other = town.has(two, SHADE);
                    boolean has = partOf(shade, dye) == value || partOf(other, dye) == value;
                    if (has && mayBear(shade, other)) {
                        many++;
                    }
                }
            }
            return many;
        }
    }

    /** Work as it was read: steps one behind the other, an again with where it ends. */
    private static final class Plan {
        // the shortest step (rain;) has five bytes, an again with its end nine
        private static final int MOST_ENTRIES = WORK_BYTES / 4;

        private final int[] kinds = new int[MOST_ENTRIES];
        private final int[] firsts = new int[MOST_ENTRIES];
        private final int[] seconds = new int[MOST_ENTRIES];
        private final int[] opened = new int[MOST_OPEN];
        private final int[] turns = new int[MOST_OPEN];
        private int entries;
        private int open;
        private int done;
        private int refused;

        void read(Text text, City city) {
            entries = 0;
            open = 0;
            for (int k = 0; k < WORK_BYTES && !text.failed(); k++) {
                if (open > 0 && text.takesSign(']')) {
                    close();
                    text.needSign(';');
                } else if (open == 0 && text.next() == NONE) {
                    return;
                } else {
                    readStep(text, city);
                }
            }
        }

        private void readStep(Text text, City city) {
            int kind = text.takesWordOf(STEP_WORDS);
            if (kind == AGAIN) {
                readAgain(text);
                return;
            }
            if (kind == NONE) {
                text.fail(FOREIGN, text.here);
                return;
            }
            int first = 0;
            int second = 0;
            if (kind != RAIN && kind != YEAR) {
                first = text.needNumber(city.people - 1);
            }
            if (kind == DIP) {
                second = text.needNumber(city.streets - 1);
            } else if (kind == MARRY) {
                second = text.needNumber(city.people - 1);
                if (first == second) {
                    text.fail(NONE_SUCH, text.mark);
                }
            }
            text.needSign(';');
            write(kind, first, second);
        }

        private void readAgain(Text text) {
            if (open >= MOST_OPEN) {
                text.fail(TOO_MANY, text.mark);
                return;
            }
            int times = text.needNumber(MOST_AGAIN);
            text.needSign('[');
            put(opened, open, entries);
            open++;
            write(AGAIN, times, 0);
        }

        private void close() {
            open--;
            int start = at(opened, open);
            put(seconds, start, entries);
            write(AGAIN_END, start, 0);
        }

        private void write(int kind, int first, int second) {
            put(kinds, entries, kind);
            put(firsts, entries, first);
            put(seconds, entries, second);
            entries++;
        }

        /** Some 200 agains of 60 turns each are the most that can be gone through. */
        void carryOut(City city, Town town) {
            done = 0;
            refused = 0;
            open = 0;
            int begun = 0;
            int k = 0;
            for (int guard = 0; guard < HUGE && k < entries; guard++) {
                int kind = at(kinds, k);
                if (kind == AGAIN_END) {
                    k = afterTurn(k);
                } else if (begun >= MOST_STEPS) {
                    return;
                } else {
                    begun++;
                    if (kind == AGAIN) {
                        k = afterAgain(k);
                    } else {
                        note(tried(city, town, k));
                        k++;
                    }
                }
            }
        }

        private int afterAgain(int k) {
            int times = at(firsts, k);
            if (times == 0) {
                return at(seconds, k) + 1;
            }
            put(turns, open, times);
            open++;
            return k + 1;
        }

        private int afterTurn(int k) {
            int left = at(turns, open - 1) - 1;
            put(turns, open - 1, left);
            if (left > 0) {
                return at(firsts, k) + 1;
            }
            open--;
            return k + 1;
        }

        private void note(boolean did) {
            if (did) {
                done++;
            } else {
                refused++;
            }
        }

        private boolean tried(City city, Town town, int k) {
            int first = at(firsts, k);
            int second = at(seconds, k);
            switch (at(kinds, k)) {
                case DIP: return town.dip(first, city.vatOf(second));
                case WASH: return town.wash(first);
                case SALTING: return town.salt(first);
                case RAIN: return town.rain(city.people);
                case MARRY: return town.marry(first, second);
                default: return lived(city, town);
            }
        }

        private static boolean lived(City city, Town town) {
            if (town.year() >= LAST_YEAR) {
                return false;
            }
            town.passYear(city.people, city.river);
            return true;
        }
    }

    /** The towns ahead of works that can be undone, and images: a town and its works each. */
    private static final class History {
        private final int[] past = new int[MOST_WORKS * TOWN_CELLS];
        private final int[] pictures = new int[MOST_IMAGES * IMAGE_CELLS];
        private final int[] pictureWorks = new int[MOST_IMAGES];
        private int works;
        private int images;

        void clear() {
            works = 0;
            images = 0;
        }

        void remember(Town town) {
            town.saveTo(past, works * TOWN_CELLS);
            works++;
        }

        void takeBack(Town town) {
            works--;
            town.loadFrom(past, works * TOWN_CELLS);
        }

        void keepImage(Town town) {
            int start = images * IMAGE_CELLS;
            town.saveTo(pictures, start);
            copy(past, 0, pictures, start + TOWN_CELLS, works * TOWN_CELLS);
            put(pictureWorks, images, works);
            images++;
        }

        void bringBack(Town town) {
            images--;
            int start = images * IMAGE_CELLS;
            town.loadFrom(pictures, start);
            works = at(pictureWorks, images);
            copy(pictures, start + TOWN_CELLS, past, 0, works * TOWN_CELLS);
        }
    }

    /**
     * Which shades come from which by dips. A dip that changes a shade makes its number greater, so
     * one pass over the numbers settles all of them.
     */
    private static final class Palette {
        private final int[] dips = new int[SHADES];
        private final int[] mixes = new int[SHADES];

        int fewestDips(City city, int from, int to) {
            for (int shade = to; shade >= from; shade--) {
                put(dips, shade, shade == to ? 0 : dipsVia(city, shade, to));
            }
            return from > to ? NONE : at(dips, from);
        }

        private int dipsVia(City city, int shade, int to) {
            int fewest = NONE;
            for (int s = 0; s < city.streets; s++) {
                int next = deeper(shade, city.vatOf(s));
                if (next > shade && next <= to) {
                    int rest = at(dips, next);
                    if (rest != NONE && (fewest == NONE || rest + 1 < fewest)) {
                        fewest = rest + 1;
                    }
                }
            }
            return fewest;
        }

        int dipOnTheWay(City city, int from, int to, int k) {
            int many = fewestDips(city, from, to);
            if (k >= many) {
                return NONE;
            }
            int shade = from;
            for (int before = 0; before < k; before++) {
                shade = deeper(shade, city.vatOf(firstDip(city, shade, to)));
            }
            return firstDip(city, shade, to);
        }

        private int firstDip(City city, int shade, int to) {
            for (int s = 0; s < city.streets; s++) {
                int next = deeper(shade, city.vatOf(s));
                if (next > shade && next <= to && at(dips, next) == at(dips, shade) - 1) {
                    return s;
                }
            }
            return NONE;
        }

        /** Street by street, so that the order of dips makes no other way. */
        void mixAll(City city) {
            fill(mixes, 0);
            fill(dips, NONE);
            put(mixes, 0, 1);
            put(dips, 0, 0);
            for (int s = 0; s < city.streets; s++) {
                int vat = city.vatOf(s);
                for (int shade = vat; shade < SHADES && vat > 0; shade++) {
                    if (holds(shade, vat)) {
                        mixOnce(shade, shade - vat);
                    }
                }
            }
        }

        private void mixOnce(int shade, int rest) {
            put(mixes, shade, at(mixes, shade) + at(mixes, rest));
            int few = at(dips, rest);
            if (few != NONE && (at(dips, shade) == NONE || few + 1 < at(dips, shade))) {
                put(dips, shade, few + 1);
            }
        }

        int mixesOf(int shade) {
            return at(mixes, shade);
        }

        int dipsOf(int shade) {
            return at(dips, shade);
        }

        int reachable(City city, int from) {
            fill(mixes, 0);
            put(mixes, from, 1);
            int many = 0;
            for (int shade = from; shade < SHADES; shade++) {
                if (at(mixes, shade) == 1) {
                    many++;
                    for (int s = 0; s < city.streets; s++) {
                        put(mixes, deeper(shade, city.vatOf(s)), 1);
                    }
                }
            }
            return many;
        }
    }

    /** Who is to marry whom: the best that each set of people (bits) can do among themselves. */
    private static final class Couples {
        private final int[] best = new int[1 << MOST_PEOPLE];
        private final int[] gains = new int[MOST_PEOPLE * MOST_PEOPLE];
        private final int[] partners = new int[MOST_PEOPLE];
        private int pairs;
        private int distances;

        void arrange(City city, Town town) {
            weighAll(city, town);
            int all = (1 << city.people) - 1;
            for (int set = 1; set <= all; set++) {
                put(best, set, bestOf(city.people, set));
            }
            choose(city.people, all);
            sumUp(city.people, town);
        }

        int partnerOf(int person) {
            return at(partners, person);
        }

        private void weighAll(City city, Town town) {
            for (int one = 0; one < city.people; one++) {
                for (int other = 0; other < city.people; other++) {
                    put(gains, one * MOST_PEOPLE + other, gainOf(city, town, one, other));
                }
            }
        }

        /** A pair more outweighs all distances, which together stay under its worth. */
        private static int gainOf(City city, Town town, int one, int other) {
            int far = apart(town.has(one, SHADE), town.has(other, SHADE));
            boolean may = far <= MOST_APART && city.homeOf(one) != city.homeOf(other)
                    && town.has(one, SPOUSE) == NONE && town.has(other, SPOUSE) == NONE;
            return may ? PAIR_WORTH - far : 0;
        }

        private int gain(int one, int other) {
            return at(gains, one * MOST_PEOPLE + other);
        }

        private int bestOf(int people, int set) {
            int one = leastIn(people, set);
            int rest = set & ~(1 << one);
            int most = at(best, rest);
            for (int other = one + 1; other < people; other++) {
                if (isIn(rest, other) && gain(one, other) > 0) {
                    most = Math.max(most, gain(one, other) + at(best, rest & ~(1 << other)));
                }
            }
            return most;
        }

        private void choose(int people, int all) {
            fill(partners, NONE);
            int set = all;
            for (int one = 0; one < people; one++) {
                if (isIn(set, one)) {
                    int other = firstPartner(people, set, one);
                    set &= ~(1 << one);
                    if (other != NONE) {
                        set &= ~(1 << other);
                        put(partners, one, other);
                        put(partners, other, one);
                    }
                }
            }
        }

        private int firstPartner(int people, int set, int one) {
            int rest = set & ~(1 << one);
            for (int other = one + 1; other < people; other++) {
                if (isIn(rest, other) && gain(one, other) > 0
                        && gain(one, other) + at(best, rest & ~(1 << other)) == at(best, set)) {
                    return other;
                }
            }
            return NONE;
        }

        private void sumUp(int people, Town town) {
            pairs = 0;
            distances = 0;
            for (int one = 0; one < people; one++) {
                int other = partnerOf(one);
                if (other > one) {
                    pairs++;
                    distances += apart(town.has(one, SHADE), town.has(other, SHADE));
                }
            }
        }

        private static int leastIn(int people, int set) {
            for (int p = 0; p < people; p++) {
                if (isIn(set, p)) {
                    return p;
                }
            }
            return 0;
        }

        private static boolean isIn(int set, int person) {
            return (set >> person & 1) == 1;
        }
    }

    /** Ages that go by as a seed has it. */
    private static final class Fate {
        private int seed;
        private int dips;
        private int rains;

        void live(City city, Town town, int firstSeed, int q, int years) {
            seed = firstSeed;
            dips = 0;
            rains = 0;
            for (int k = 0; k < years; k++) {
                if (draw(16) < q && town.rain(city.people)) {
                    rains++;
                }
                if (city.people > 0 && city.streets > 0) {
                    int person = draw(city.people);
                    int street = draw(city.streets);
                    if (town.dip(person, city.vatOf(street))) {
                        dips++;
                    }
                }
                town.passYear(city.people, city.river);
            }
        }

        private int draw(int by) {
            seed = seed * 1103515245 + 12345;
            return by > 0 ? (seed >>> 16 & 32767) % by : 0;
        }
    }
}
