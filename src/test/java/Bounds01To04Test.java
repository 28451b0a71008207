/** The boundaries that the document names in the promises 1 to 4 and in the terms of a city and a law. */
public final class Bounds01To04Test {
    private static final String STREET = "street 1 1 1 1;";
    private static final String PERSON = "person 0 1;";
    private static final String RIVER = "river 5;";

    public static void main(String[] args) throws IllegalAccessException {
        Cases.run(Bounds01To04Test.class, 1, 4);
    }

    // ---- 1: a new object

    static void p01_aCityWithoutClauses() {
        DyeStreets x = new DyeStreets();
        Check.same("all", Check.all(x), "told 0 0 0 0 0 0 0 0 0 5 stock 50 50 50 count 0 0 0 book 0 0");
        Check.is("no fault", x.fault(), -1);
        Check.is("nothing to undo", x.undo(), -1);
        Check.is("no image", x.restore(), -1);
        Check.is("nothing refused", x.status(0) + x.status(1), 0);
        Check.is("no law but dark - 9", x.would(333, 0, 0, 0, 0, 0), false);
        Check.is("no law but dark - 9", x.would(343, 0, 0, 0, 0, 0), true);
        Check.missing("no street", () -> x.street(0, 0));
        Check.missing("no person", () -> x.person(0, 0));
    }

    static void p01_objectsShareNothing() {
        DyeStreets x = Telling.lived();
        x.feed(1, 2, 3, 4, 5);
        Check.illegal("told 99", () -> x.told(99));
        DyeStreets y = new DyeStreets();
        Check.same("another", Check.all(y), "told 0 0 0 0 0 0 0 0 0 5 stock 50 50 50 count 0 0 0 book 0 0");
        Check.is("another's refusals", y.status(1), 0);
        String before = Check.all(x);
        Check.of("street 9 9 9 9;person 0 60;river 20;");
        Check.same("the first stays", Check.all(x), before);
    }

    static void p01_fiveHundredAndTwelveCalls() {
        DyeStreets x = new DyeStreets();
        for (int k = 1; k <= 512; k++) {
            Check.is("call " + k, k % 3 == 0 ? x.span(k, 20, 8, 96, 2) : k % 3 == 1 ? x.tones(0) : x.city(0),
                    k % 3 == 0 ? 20 : k % 3 == 1 ? 1 : 0);
        }
    }

    static void p01_noneIsMinusOne() {
        Check.is("NONE", DyeStreets.NONE, -1);
    }

    // ---- 2: feed

    static void p02_theHighestByteOfEachNumberFirst() {
        DyeStreets x = new DyeStreets();
        Check.is("feed", x.feed(0x73742020, 0x20202020, 0x20202020, 0x20202020, 0x20202020), 20);
        Check.is("feed", x.feed(0x72697665, 0x72203133, 0x3b726976, 0x65722020, 0x20373b00), 40);
        Check.is("\"st\" is no word", x.city(40), -9);
        Check.is("its place", x.fault(), 0);
        Check.is("feed", x.feed(0x72697665, 0x72203133, 0x3b726976, 0x65722020, 0x20373b00), 20);
        Check.is("two rivers", x.city(19), 0);
        Check.is("the last one", x.told(9), 7);
    }

    static void p02_numbersBelow0HaveBytesAbove127() {
        for (int k = 0; k < 20; k++) {
            int[] n = new int[5];
            for (int j = 0; j < 20; j++) {
                n[j / 4] = n[j / 4] << 8 | (j == k ? 255 : 32);
            }
            DyeStreets x = new DyeStreets();
            x.feed(n[0], n[1], n[2], n[3], n[4]);
            Check.is("byte 255 at " + k, x.city(20), -9);
            Check.is("its place", x.fault(), k);
        }
        DyeStreets y = new DyeStreets();
        Check.is("any numbers", y.feed(-1, Integer.MIN_VALUE, Integer.MAX_VALUE, 0, 1), 20);
        Check.is("none of them read", y.city(0), 0);
        y.feed(0x20A02020, 0x20202020, 0x20202020, 0x20202020, 0x20202020);
        Check.is("byte 160 is no blank", y.city(20), -9);
        Check.is("its place", y.fault(), 1);
    }

    static void p02_sixHundredBytesAreThereAtMost() {
        DyeStreets x = new DyeStreets();
        for (int k = 1; k <= 29; k++) {
            Check.is("feed", x.feed(0x20202020, 0x20202020, 0x20202020, 0x20202020, 0x20202020), 20 * k);
        }
        Check.is("just 600", x.feed(0x20202020, 0x20202020, 0x20202072, 0x69766572, 0x2031373b), 600);
        Check.is("none would be more", x.feed(0, 0, 0, 0, 0), -1);
        Check.is("nor again", x.feed(-1, -1, -1, -1, -1), -1);
        Check.is("nothing is done", x.count(1), 600);
        Check.is("nor to the bytes", x.city(600), 0);
        Check.is("nor to the last ones", x.told(9), 17);
        Check.is("there is room again", x.feed(0, 0, 0, 0, 0), 20);
    }

    static void p02_bytesComeBehindThoseThatAreThere() {
        DyeStreets x = new DyeStreets();
        Check.feed(x, "                 riv");
        Check.feed(x, "er 11;              ");
        Check.illegal("a city of 41", () -> x.city(41));
        Check.is("the tape stays", Check.feed(x, "                    "), 60);
        Check.is("a word over two feeds", x.city(60), 0);
        Check.is("its number", x.told(9), 11);
    }

    // ---- 3: city, its text

    static void p03_sixHundredBytes() {
        DyeStreets x = new DyeStreets();
        Check.is("600 bytes", Check.city(x, " ".repeat(577) + STREET + "river 7;"), 0);
        Check.is("a street", x.told(0), 1);
        Check.is("a river at the end", x.told(9), 7);
        Check.is("600 bytes, the last one too many", Check.city(x, " ".repeat(599) + "x"), -9);
        Check.is("its place", x.fault(), 599);
    }

    static void p03_anEmptyTextIsACityWithoutClauses() {
        for (String text : new String[] {"", " ", "                     "}) {
            DyeStreets x = Telling.lived();
            Check.is("an empty text", Check.city(x, text), 0);
            Check.same("all", Check.all(x), Check.all(new DyeStreets()));
            Check.is("no fault", x.fault(), -1);
        }
    }

    static void p03_onlyTheFirstBytesAreReadAndTheRestIsGone() {
        DyeStreets x = new DyeStreets();
        Check.feed(x, "river 7;river 8;river");
        Check.is("8 of 40", x.city(8), 0);
        Check.is("the first river", x.told(9), 7);
        Check.is("the tape is empty", x.count(1), 0);
        Check.feed(x, "river 7;");
        Check.is("7 of 20", x.city(7), -9);
        Check.is("at the length, not at the sign behind it", x.fault(), 7);
        Check.feed(x, "river 12;");
        Check.is("what stood there once is not read", x.city(9), 0);
        Check.is("a river", x.told(9), 12);
        Check.feed(x, "rivers 5;");
        Check.is("a word ends with the text", x.city(5), -9);
        Check.is("at the length", x.fault(), 5);
    }

    static void p03_howManyBytes() {
        Telling.counts("city", 600);
    }

    static void p03_sixtyClauses() {
        Check.is("60", Check.city(new DyeStreets(), RIVER.repeat(60)), 0);
        Check.is("60, and blanks", Check.city(new DyeStreets(), RIVER.repeat(60) + "   "), 0);
        String all = STREET.repeat(6) + PERSON.repeat(8) + RIVER.repeat(23) + "stock 0 1;".repeat(3) + RIVER.repeat(20);
        Check.is("60 of all kinds", Check.city(new DyeStreets(), all), 8);
        Telling.fault("city", all + "stock 0 1;", 3, 552);
    }

    static void p03_aSixtyFirstClauseIsTooManyAtItsWord() {
        Telling.fault("city", RIVER.repeat(60) + "river 5;", 3, 480);
        Telling.fault("city", RIVER.repeat(60) + "  street 1 1 1 1;", 3, 482);
        Telling.fault("city", RIVER.repeat(60) + "stock 0 1;", 3, 480);
        Telling.fault("city", RIVER.repeat(59) + STREET + "person 0 1;", 3, 487);
        Telling.fault("city", RIVER.repeat(60) + " river", 3, 481);
        Telling.fault("city", RIVER.repeat(60) + "river 99;", 3, 480);
    }

    static void p03_ofFaultsAtOnePlaceTheLeast() {
        Telling.fault("city", RIVER.repeat(60) + "rivers 5;", 1, 480);
        Telling.fault("city", RIVER.repeat(60) + "x", 1, 480);
        Telling.fault("city", RIVER.repeat(60) + "5", 1, 480);
        Telling.fault("city", RIVER.repeat(60) + ";", 1, 480);
        Telling.fault("city", STREET.repeat(6) + "streets 1 1 1 1;", 1, 90);
    }

    static void p03_sixStreets() {
        DyeStreets x = Check.of(STREET.repeat(5) + "street 9 9 9 9;");
        Check.is("6 streets", x.told(0), 6);
        Check.is("the sixth", x.street(5, 0), 999);
        Check.is("numbered from 0 on", x.street(0, 0), 111);
        Check.missing("no seventh", () -> x.street(6, 0));
        Telling.fault("city", STREET.repeat(7), 3, 90);
        Telling.fault("city", STREET.repeat(6) + " street", 3, 91);
        Telling.fault("city", STREET.repeat(6) + "street 10 1 1 1;", 3, 90);
        Telling.fault("city", STREET.repeat(3) + PERSON + STREET.repeat(4), 3, 101);
    }

    static void p03_eightPersons() {
        DyeStreets x = new DyeStreets();
        Check.is("8 persons", Check.city(x, STREET + PERSON.repeat(7) + "person 0 60;"), 8);
        Check.is("the eighth", x.person(7, 1), 60);
        Check.is("numbered from 0 on", x.person(0, 1), 1);
        Check.missing("no ninth", () -> x.person(8, 0));
        Telling.fault("city", STREET + PERSON.repeat(9), 3, 103);
        Telling.fault("city", STREET + PERSON.repeat(8) + " person", 3, 104);
        Telling.fault("city", STREET + PERSON.repeat(8) + "person 9 99;", 3, 103);
        Telling.fault("city", STREET + PERSON.repeat(8) + "persons 0 1;", 1, 103);
    }

    static void p03_numbersOfAStreet() {
        DyeStreets x = Check.of("street 0 0 0 0;street 9 9 9 9;street 9 0 0 0;street 0 9 0 1;street 0 0 9 8;");
        Check.is("all 0", x.street(0, 0) + x.street(0, 1), 0);
        Check.is("all 9", x.street(1, 0) * 10 + x.street(1, 1), 9999);
        Check.is("9 of madder", x.street(2, 0), 900);
        Check.is("9 of indigo, rank 1", x.street(3, 0) * 10 + x.street(3, 1), 901);
        Check.is("9 of weld, rank 8", x.street(4, 0) * 10 + x.street(4, 1), 98);
        Telling.fault("city", "street 10 1 1 1;", 2, 7);
        Telling.fault("city", "street 1 10 1 1;", 2, 9);
        Telling.fault("city", "street 1 1 10 1;", 2, 11);
        Telling.fault("city", "street 1 1 1 10;", 2, 13);
    }

    static void p03_aPersonIsOfAStreetToldAhead() {
        DyeStreets x = Check.of(STREET + "person 0 1;" + STREET + "person 1 1;person 0 1;");
        Check.is("of the last one told", x.person(1, 0), 1);
        Check.is("of an earlier one", x.person(2, 0), 0);
        Telling.fault("city", "person 0 1;", 2, 7);
        Telling.fault("city", "person 0 1;" + STREET, 2, 7);
        Telling.fault("city", STREET + "person 1 1;", 2, 22);
        Telling.fault("city", STREET + "person 1 1;" + STREET, 2, 22);
        Telling.fault("city", STREET.repeat(6) + "person 6 1;", 2, 97);
        Check.is("of the sixth", Check.of(STREET.repeat(6) + "person 5 1;").person(0, 0), 5);
    }

    static void p03_ages() {
        DyeStreets x = Check.of(STREET + "person 0 0;person 0 60;");
        Check.is("0", x.person(0, 1), 0);
        Check.is("60", x.person(1, 1), 60);
        Telling.fault("city", STREET + "person 0 61;", 2, 24);
    }

    static void p03_stocks() {
        DyeStreets x = Check.of("stock 0 0;stock 2 200;");
        Check.is("0", x.stock(0), 0);
        Check.is("50 without", x.stock(1), 50);
        Check.is("200", x.stock(2), 200);
        DyeStreets y = Check.of("stock 1 7;stock 2 8;stock 1 9;stock 1 3;");
        Check.is("of one dye the last counts", y.stock(1), 3);
        Check.is("not of another", y.stock(2), 8);
        Telling.fault("city", "stock 3 1;", 2, 6);
        Telling.fault("city", "stock 0 201;", 2, 8);
        Telling.fault("city", "stock 3 201;", 2, 6);
        Check.is("50 again in the next city", Check.city(y, "") + y.stock(1), 50);
    }

    static void p03_rivers() {
        Check.is("0", Check.of("river 0;").told(9), 0);
        Check.is("20", Check.of("river 20;").told(9), 20);
        DyeStreets x = Check.of("river 20;river 3;");
        Check.is("the last counts", x.told(9), 3);
        Check.is("5 without", Check.city(x, STREET) + x.told(9), 5);
        Telling.fault("city", "river 21;", 2, 6);
        Telling.fault("city", "river 21;river 1;", 2, 6);
    }

    static void p03_aTextThatEndsTooEarly() {
        Telling.cutShort("city", "street 1 2 3 4;person 0 60;stock 2 200;river 20;", "|0|15|27|39|48|");
        Telling.cutShort("city", "  river   20   ;   ", "|0|1|2|16|17|18|19|");
        Telling.fault("city", "street 1 2 3   ", 1, 15);
        Telling.fault("city", "river 5   ", 1, 10);
        Telling.fault("city", "street", 1, 6);
    }

    static void p03_whatCannotStandThere() {
        Telling.fault("city", "x", 1, 0);
        Telling.fault("city", "  fountain 1;", 1, 2);
        Telling.fault("city", "Street 1 1 1 1;", 1, 0);
        Telling.fault("city", "strEet 1 1 1 1;", 1, 0);
        Telling.fault("city", "dip 0 0;", 1, 0);
        Telling.fault("city", "street;", 1, 6);
        Telling.fault("city", "street a 1 1 1;", 1, 7);
        Telling.fault("city", "street 1 1 1;", 1, 12);
        Telling.fault("city", "street 1 1 1 1 1;", 1, 15);
        Telling.fault("city", "street -1 1 1 1;", 1, 7);
        Telling.fault("city", "street 1,1 1 1;", 1, 8);
        Telling.fault("city", "stock 0;", 1, 7);
        Telling.fault("city", "river;", 1, 5);
        Telling.fault("city", ";", 1, 0);
        Telling.fault("city", "5;", 1, 0);
        Telling.fault("city", "river 5;;", 1, 8);
        Telling.fault("city", "river 5 river 5;", 1, 8);
        Telling.fault("city", "river 5;1", 1, 8);
        for (char next : new char[] {'/', ':', '`', '{', '@', '['}) {
            Telling.fault("city", "river " + next + ";", 1, 6);
            Telling.fault("city", "river" + next + "5;", 1, 5);
        }
    }

    static void p03_theFirstFaultFromTheLeft() {
        Telling.fault("city", "street 10 x", 2, 7);
        Telling.fault("city", "street x 10 1 1;", 1, 7);
        Telling.fault("city", "person 9 61;", 2, 7);
        Telling.fault("city", "river 21 5;", 2, 6);
        Telling.fault("city", "river 21", 2, 6);
        Telling.fault("city", "river 21;" + STREET.repeat(7), 2, 6);
        Telling.fault("city", STREET.repeat(7) + "river 21;", 3, 90);
    }

    static void p03_digitsAsManyAsStandThere() {
        DyeStreets x = Check.of("street 0000000000000000000000009 09 00 01;stock 000000000000000000002 0000200;");
        Check.is("zeros ahead", x.street(0, 0), 990);
        Check.is("zeros ahead", x.stock(2), 200);
        Telling.fault("city", "street 12 3 4 5;", 2, 7);
        Telling.fault("city", "street 1234;", 2, 7);
        for (String huge : new String[] {"4294967296", "4294967297", "2147483648", "18446744073709551617",
            "99999999999999999999999999999999999999", "1000000", "1000001", "100000000000000000000000000000000000"}) {
            Telling.fault("city", "street 1 1 1 " + huge + ";", 2, 13);
        }
    }

    static void p03_lettersAsManyAsStandThere() {
        Check.is("a digit ends a word", Check.city(new DyeStreets(), "street1 1 1 1;person0 1;stock0 1;river1;"), 1);
        Telling.fault("city", "streets 1 1 1 1;", 1, 0);
        Telling.fault("city", "streeta 1 1 1 1;", 1, 0);
        Telling.fault("city", "streetz 1 1 1 1;", 1, 0);
        Telling.fault("city", "riverstreet 1 1 1 1;", 1, 0);
        Telling.fault("city", "riverr 1;", 1, 0);
        Telling.fault("city", "s 1 1 1 1;", 1, 0);
        Telling.fault("city", "streetA 1 1 1 1;", 1, 6);
        Telling.fault("city", "river\u00e9 1;", 1, 5);
    }

    static void p03_blanksAheadOfAllAndAtTheEnd() {
        DyeStreets x = new DyeStreets();
        Check.is("blanks", Check.city(x, "   street   9   8   7   6   ;   person   0   5   ;   "), 1);
        Check.is("the street", x.street(0, 0) * 10 + x.street(0, 1), 9876);
        for (int other : new int[] {0, 9, 10, 13, 31, 33, 160, 255}) {
            char sign = (char) other;
            Telling.fault("city", sign + "river 5;", 1, 0);
            Telling.fault("city", "river" + sign + "5;", 1, 5);
            Telling.fault("city", "river 5" + sign + ";", 1, 7);
            Telling.fault("city", "river 5;" + sign, 1, 8);
        }
        Telling.fault("city", "str eet 1 1 1 1;", 1, 0);
        Telling.fault("city", "river 2 0;", 1, 8);
    }

    // ---- 3: city, what it does

    static void p03_aCityEndsAllThatWas() {
        DyeStreets x = Telling.lived();
        Check.is("people", Check.city(x, Telling.TOWN), 4);
        Check.same("all", Check.all(x), Check.all(Check.of(Telling.TOWN)));
        Check.is("nothing to undo", x.undo(), -1);
        Check.is("no image", x.restore(), -1);
        Check.is("no law but dark - 9", x.would(333, 60, 0, 0, 0, 0), false);
        Check.is("no book: all fit", x.fits(0), 6);
        Check.is("three images again", x.image() + x.image() + x.image(), 6);
    }

    static void p03_aFaultLeavesAllButTheTape() {
        DyeStreets x = Telling.lived();
        Check.is("a fault behind much", Check.city(x, "street 9 9 9 9;person 0 60;stock 0 1;river 9;?"), -9);
        Check.is("the law stays", x.would(0, 16, 0, 0, 0, 0), true);
        Check.is("the law stays", x.would(999, 15, 0, 0, 0, 0), false);
        Check.is("the book stays", x.told(6), 1);
        Check.is("refused steps stay", x.told(7), 1);
        Check.is("the river stays", x.told(9), 2);
        Check.is("works stay", x.undo(), 1);
        Check.is("the image stays", x.restore(), 0);
        Check.is("its shade", x.person(0, 2), 500);
    }

    static void p03_refusalsAreCountedOnBehindACity() {
        DyeStreets x = new DyeStreets();
        Check.illegal("city of 1", () -> x.city(1));
        Check.is("city", Check.city(x, Telling.TOWN), 4);
        Check.is("status", x.status(1), 1);
    }

    // ---- 4: law, its text

    /** The law, of a shade 123, age 40, rank 5, 6 dips, year 7, by birth, is just that: not above it, above 1 less. */
    private static void worth(String law, int worth) {
        DyeStreets x = new DyeStreets();
        String less = worth < 0 ? "+" + -worth : "-" + worth;
        Check.is("law " + law + less, Check.law(x, law + less), 1);
        Check.is(law + " above " + worth, x.would(123, 40, 5, 6, 7, 1), false);
        Check.law(x, law + less + "+1");
        Check.is(law + " above 1 less than " + worth, x.would(123, 40, 5, 6, 7, 1), true);
    }

    private static void seats(String law, boolean due) {
        DyeStreets x = new DyeStreets();
        Check.is("law " + law, Check.law(x, law), 1);
        Check.is(law + " is above 0", x.would(123, 40, 5, 6, 7, 1), due);
    }

    static void p04_oneHundredFiftyBytes() {
        seats("1" + "+1".repeat(71) + "-71" + "    ", true);
        seats("1" + "+1".repeat(71) + "-72" + "    ", false);
        seats("0".repeat(149) + "1", true);
        seats(" ".repeat(149) + "1", true);
        Telling.fault("law", " ".repeat(149) + "+", 1, 149);
        Telling.fault("law", "1" + "+1".repeat(74) + "+", 1, 150);
    }

    static void p04_howManyBytes() {
        Telling.counts("law", 150);
    }

    static void p04_anEmptyTextIsNoLaw() {
        Telling.fault("law", "", 1, 0);
        Telling.fault("law", "    ", 1, 4);
    }

    static void p04_atTheEndNothingMore() {
        worth("7   ", 7);
        Telling.fault("law", "1 2", 1, 2);
        Telling.fault("law", "1;", 1, 1);
        Telling.fault("law", "1)", 1, 1);
        Telling.fault("law", "1]", 1, 1);
        Telling.fault("law", "1,2", 1, 1);
        Telling.fault("law", "1dark", 1, 1);
        Telling.fault("law", "dark1", 1, 4);
        Telling.fault("law", "dark dark", 1, 5);
        Telling.fault("law", "(1)(1)", 1, 3);
        Telling.fault("law", "least[1,2]3", 1, 10);
    }

    static void p04_onlyAbove0OneSits() {
        seats("0", false);
        seats("1", true);
        seats("0-1", false);
        seats("999", true);
        seats("0-999", false);
    }

    static void p04_withoutALawItIsDarkLess9() {
        DyeStreets x = new DyeStreets();
        Check.is("9", x.would(900, 400, 9, 99, 300, 1), false);
        Check.is("9", x.would(333, 0, 0, 0, 0, 0), false);
        Check.is("10", x.would(910, 0, 0, 0, 0, 0), true);
        Check.is("27", x.would(999, 0, 0, 0, 0, 0), true);
        Check.is("0", x.would(0, 0, 0, 0, 0, 0), false);
        Check.is("a fault", Check.law(x, "1+"), -9);
        Check.is("9, behind a fault", x.would(333, 0, 0, 0, 0, 0), false);
        Check.is("10, behind a fault", x.would(334, 0, 0, 0, 0, 0), true);
        Check.is("a law", Check.law(x, "1"), 1);
        Check.is("a law", x.would(0, 0, 0, 0, 0, 0), true);
        Check.is("a city", x.city(0), 0);
        Check.is("9, behind a city", x.would(333, 0, 0, 0, 0, 0), false);
    }

    static void p04_numbers0To999() {
        worth("0", 0);
        worth("998", 998);
        worth("999-1", 998);
        worth("0000000999-1", 998);
        Telling.fault("law", "1000", 2, 0);
        Telling.fault("law", "0001000", 2, 0);
        Telling.fault("law", "dark + 1000", 2, 7);
        Telling.fault("law", "4294967297", 2, 0);
        Telling.fault("law", "18446744073709551617", 2, 0);
        Telling.fault("law", "1000+", 2, 0);
    }

    static void p04_factsAndHowTheyAreJoined() {
        worth("madder", 1);
        worth("indigo", 2);
        worth("weld", 3);
        worth("dark", 6);
        worth("age", 40);
        worth("rank", 5);
        worth("dips", 6);
        worth("year", 7);
        worth("birth", 1);
        worth("2+3*4", 14);
        worth("2*3+4", 10);
        worth("20-6/4", 19);
        worth("9-3-2", 4);
        worth("9-3+2", 8);
        worth("100/7/2", 7);
        worth("100/7*2", 28);
        worth("100*7/2", 350);
        worth("(2+3)*4", 20);
        worth("least[4,3]+least[3,4]", 6);
        worth("most[4,3]+most[3,4]", 8);
        worth("least[5,5]+most[5,5]", 10);
        worth("least[0-1,1]", -1);
        worth("most[0-1,0-2]", -1);
    }

    static void p04_valuesWrapAt32Bits() {
        String half = "512*512*512*8";
        seats(half, true);
        seats(half + "+" + half, false);
        seats(half + "+" + half + "-1", true);
        seats("512*512*512*16", false);
        seats("512*512*512*16-1", true);
        seats("512*512*512*32", false);
        seats("512*512*512*32+1", true);
        seats("0-512*512*512*16", false);
        seats("0-512*512*512*16-1", true);
        seats("512*512*512*16/2", false);
        seats("0-512*512*512*16/2", true);
        seats("most[512*512*512*16,0-1]", false);
        worth("most[512*512*512*16,0-1]", -1);
        seats("least[512*512*512*16,5]", false);
        worth("least[512*512*512*16-1,5]", 5);
    }

    static void p04_theLeastByMinus1WrapsAsWell() {
        seats("512*512*512*16/(0-1)", false);
        seats("512*512*512*16/(0-1)-1", true);
    }

    static void p04_divisionCuts() {
        worth("7/2", 3);
        worth("1/2", 0);
        worth("(0-7)/2", -3);
        worth("7/(0-2)", -3);
        worth("(0-7)/(0-2)", 3);
        worth("(0-1)/2", 0);
    }

    static void p04_by0ItIs0() {
        worth("7/0", 0);
        worth("0/0", 0);
        worth("(0-7)/0", 0);
        worth("7/0+3", 3);
        worth("5/(madder-1)*9+2", 2);
        worth("512*512*512*16/0", 0);
        worth("8/(4/5)", 0);
    }

    static void p04_sixAreOpenAtOneTime() {
        worth("((((((5))))))", 5);
        worth("least[9,least[8,least[7,least[6,least[5,least[4,3]]]]]]", 3);
        worth("most[most[most[most[most[most[1,2],3],4],5],6],7]", 7);
        worth("(most[(least[(most[5,4]),7]),1])", 5);
        worth("((((((1))))))+((((((2))))))", 3);
        worth("(1)+(1)+(1)+(1)+(1)+(1)+(1)", 7);
        worth("((((((1)+(1))+(1))+(1))+(1))+(1))+(1)", 7);
        worth(("least[1,2]+".repeat(8)) + "0", 8);
    }

    static void p04_theSeventhThatIsOpen() {
        Telling.fault("law", "(((((((1)))))))", 3, 6);
        Telling.fault("law", "((((((  (1", 3, 8);
        Telling.fault("law", "((((((1+(1", 3, 8);
        Telling.fault("law", "((((((least[1,2]))))))", 3, 6);
        Telling.fault("law", "((((((most[1,2]))))))", 3, 6);
        Telling.fault("law", "((((((most", 3, 6);
        Telling.fault("law", "((((((least 5", 3, 6);
        Telling.fault("law", "least[1,".repeat(6) + "(1)", 3, 48);
        Telling.fault("law", "least[1,".repeat(6) + "least[1,1]", 3, 48);
        Telling.fault("law", "least[1,".repeat(6) + "most[1,1]", 3, 48);
        Telling.fault("law", "most[".repeat(6) + "(1)", 3, 30);
        Telling.fault("law", "most[".repeat(6) + "most[1", 3, 30);
        Telling.fault("law", "(((((least[(", 3, 11);
        Telling.fault("law", "(((((least[1,(", 3, 13);
        Telling.fault("law", "((((((1)+((1", 3, 10);
    }

    static void p04_ofFaultsAtOnePlaceTheLeast() {
        Telling.fault("law", "((((((leasts[1,2]", 1, 6);
        Telling.fault("law", "((((((1(1", 1, 7);
        Telling.fault("law", "((((((1 least[1,2]", 1, 8);
        Telling.fault("law", "((((((1000", 2, 6);
    }

    static void p04_aTextThatEndsTooEarly() {
        Telling.cutShort("law", "most[3,(1)]+2*age", "|11|13|17|");
        Telling.cutShort("law", " dark -  12 ", "|5|6|10|11|12|");
        Telling.fault("law", "dark - ", 1, 7);
        Telling.fault("law", "least[1,2   ", 1, 12);
        Telling.fault("law", "(1  ", 1, 4);
    }

    static void p04_whatCannotStandThere() {
        Telling.fault("law", "+1", 1, 0);
        Telling.fault("law", "-1", 1, 0);
        Telling.fault("law", "1+-1", 1, 2);
        Telling.fault("law", "1*/1", 1, 2);
        Telling.fault("law", "()", 1, 1);
        Telling.fault("law", "(1]", 1, 2);
        Telling.fault("law", "least(1,2)", 1, 5);
        Telling.fault("law", "least 5", 1, 6);
        Telling.fault("law", "least[1]", 1, 7);
        Telling.fault("law", "least[1)", 1, 7);
        Telling.fault("law", "least[1,2)", 1, 9);
        Telling.fault("law", "most[1,2,3]", 1, 8);
        Telling.fault("law", "most[,2]", 1, 5);
        Telling.fault("law", "darks", 1, 0);
        Telling.fault("law", "Dark", 1, 0);
        Telling.fault("law", "shade", 1, 0);
        Telling.fault("law", "darkZ", 1, 4);
        Telling.fault("law", "1%2", 1, 1);
        Telling.fault("law", "1.5", 1, 1);
        Telling.fault("law", "1\t+1", 1, 1);
        Telling.fault("law", "1\u00a0", 1, 1);
    }

    static void p04_blanksAheadOfAllAndAtTheEnd() {
        worth("  most  [  1  +  1  ,  (  9  )  /  2  ]  *  madder  ", 4);
    }

    static void p04_onlyTheFirstBytesAreRead() {
        DyeStreets x = new DyeStreets();
        Check.feed(x, "darkness");
        Check.is("a word ends with the text", x.law(4), 1);
        Check.is("it is dark", x.would(100, 0, 0, 0, 0, 0), true);
        Check.feed(x, "dark-100");
        Check.is("a number ends with the text", x.law(7), 1);
        Check.is("it is 10", x.would(911, 0, 0, 0, 0, 0), true);
        Check.is("it is 10", x.would(910, 0, 0, 0, 0, 0), false);
        Check.is("the tape is empty then", x.count(1), 0);
    }

    // ---- 4: law, what it does

    static void p04_aFaultLeavesTheLaw() {
        DyeStreets x = Check.of(Telling.TOWN);
        Check.is("a law", Check.law(x, "age-29"), 1);
        Check.is("a law with a fault", Check.law(x, "1+1000"), -8);
        Check.is("one above 29", x.told(3), 1);
        Check.is("another law", Check.law(x, "age-19"), 1);
        Check.is("two above 19", x.told(3), 2);
        Check.is("a short law", Check.law(x, "0"), 1);
        Check.is("none", x.told(3), 0);
    }

    static void p04_rankAndBirthAreOfTheStreetOneSeemsOf() {
        DyeStreets x = Check.of(Telling.TOWN);
        Check.work(x, "dip 0 1;dip 1 1;");
        Check.law(x, "rank-6");
        Check.is("dyed in rank 7", x.person(0, 7) * 10 + x.person(1, 7), 11);
        Check.is("white ones are near to rank 5", x.person(2, 7) * 10 + x.person(3, 7), 0);
        Check.law(x, "birth");
        Check.is("not of his street", x.person(0, 7), 0);
        Check.is("of his street", x.person(1, 7), 1);
        Check.is("white ones of the streets 1 and 2", x.person(2, 7) + x.person(3, 7), 0);
        Check.law(x, "birth-1");
        Check.is("it is 1 at most", x.told(3), 0);
        Check.law(x, "0-birth");
        Check.is("it is 0 at least", x.told(3), 0);
        Check.law(x, "dips-1");
        Check.is("dips are as many as there were", x.told(3), 0);
    }

    static void p04_factsBeyondWhatWouldTakes() {
        DyeStreets x = Check.of("street 1 0 0 0;person 0 60;stock 0 200;");
        Check.work(x, "again 60[dip 0 0;wash 0;];");
        Check.law(x, "dips-59");
        Check.is("60 dips", x.told(3), 1);
        Check.work(x, "again 40[dip 0 0;wash 0;];");
        Check.law(x, "dips-99");
        Check.is("100 dips", x.told(3), 1);
        Check.law(x, "dips-100");
        Check.is("not 101", x.told(3), 0);
        Check.law(x, "least[age-159,year-99]");
        Check.is("age 160 in year 100 is far off", x.when(0, 1), -1);
        Check.work(x, "again 50[year;];");
        Check.is("age 160 in year 100", x.when(0, 1), 50);
    }

    static void p04_aLawIsNoWork() {
        DyeStreets x = Telling.lived();
        Check.is("a law", Check.law(x, "1"), 1);
        Check.is("works", x.count(2), 2);
        Check.is("refused steps", x.told(7), 1);
        Check.is("images", x.count(0), 1);
        Check.is("restore", x.restore(), 0);
        Check.is("the law stays", x.told(3), 4);
    }
}
