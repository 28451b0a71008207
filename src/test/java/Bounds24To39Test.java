/** The boundaries that the document names in the promises 24 to 39: children, stocks, guilds, ages, images, refusals. */
public final class Bounds24To39Test {
    /** Four of the one street, four of the other. */
    private static final String EIGHT = "street 1 0 0 0;street 0 1 0 0;" + "person 0 1;person 1 1;".repeat(4);

    public static void main(String[] args) throws IllegalAccessException {
        Cases.run(Bounds24To39Test.class, 24, 39);
    }

    private static DyeStreets withWork(String city, String work) {
        DyeStreets x = Check.of(city);
        Check.is("work \"" + work + "\"", Check.work(x, work) >= 0, true);
        Check.is("none refused of \"" + work + "\"", x.told(7), 0);
        return x;
    }

    private static void fits(DyeStreets x, String book, int many, int first) {
        Check.is("book \"" + book + "\"", Check.book(x, book) >= 0, true);
        Check.is("fits of \"" + book + "\"", x.fits(0), many);
        Check.is("the first of \"" + book + "\"", x.fits(1), first);
    }

    // ---- 24: fits

    static void p24_bounds() {
        DyeStreets x = Check.of(EIGHT);
        Telling.illegalBeyond("fits", 0, 1, n -> x.fits(n));
    }

    static void p24_noPairsOfNobodyOrOfOne() {
        fits(new DyeStreets(), "", 0, -1);
        fits(Check.of("street 1 1 1 1;person 0 1;"), "", 0, -1);
        fits(Check.of("street 1 1 1 1;person 0 1;person 0 1;"), "", 1, 1);
    }

    static void p24_byABookOfNoLinesAllFit() {
        fits(Check.of(EIGHT), "", 28, 1);
        fits(Check.of(EIGHT), "0 0;1 0;2 0;", 28, 1);
    }

    static void p24_noneFits() {
        fits(Check.of(EIGHT), "0 1;", 0, -1);
        fits(Check.of(EIGHT), "0 0;1 0;2 9;", 0, -1);
    }

    static void p24_theLastPair() {
        DyeStreets x = withWork("street 9 0 0 0;street 0 9 0 0;" + "person 0 1;".repeat(8), "dip 6 0;dip 7 1;");
        fits(x, "0 9;1 9;", 1, 67);
        fits(x, "0 9;", 7, 6);
        fits(x, "1 9;0 0;", 7, 7);
    }

    static void p24_ofEachDyeOneOfThemHasAsMuch() {
        DyeStreets x = withWork("street 3 4 0 0;street 3 0 0 0;street 0 4 0 0;" + "person 0 1;".repeat(3),
                "dip 0 0;dip 1 1;dip 2 2;");
        fits(x, "0 3;1 4;", 3, 1);
        fits(x, "0 3;1 0;", 2, 1);
        fits(x, "0 0;1 0;", 1, 12);
        fits(x, "0 3;1 4;2 1;", 0, -1);
        fits(x, "0 2;", 0, -1);
        fits(x, "0 4;", 0, -1);
    }

    // ---- 25: look

    static void p25_bounds() {
        DyeStreets x = Check.of(EIGHT);
        Telling.illegalBeyond("look", 0, 1, n -> x.look(n));
        Check.book(x, "0 0;1 0;2 0;");
        Telling.illegalBeyond("look, all dyes in lines", 0, 1, n -> x.look(n));
    }

    static void p25_noneBothIfAllDyesAreInLines() {
        DyeStreets x = Check.of(EIGHT);
        Check.book(x, "0 0;1 0;2 0;");
        Check.is("the dye", x.look(0), -1);
        Check.is("those most", x.look(1), -1);
        Check.book(x, "0 0;1 0;");
        Check.is("the only one", x.look(0), 2);
        Check.is("those most", x.look(1), 28);
    }

    static void p25_ofAlikeOnesTheFirst() {
        Check.is("nobody", new DyeStreets().look(0), 0);
        Check.is("nobody: none left", new DyeStreets().look(1), 0);
        DyeStreets x = Check.of(EIGHT);
        Check.is("all white", x.look(0), 0);
        Check.book(x, "0 0;");
        Check.is("behind madder", x.look(0), 1);
        Check.book(x, "0 5;");
        Check.is("none left: indigo", x.look(0), 1);
        Check.is("none left: 0", x.look(1), 0);
    }

    static void p25_valuesFrom0To9() {
        String city = "street 9 9 9 0;street 0 0 9 0;street 9 9 0 0;person 0 1;person 0 1;";
        DyeStreets x = withWork(city, "dip 0 0;dip 1 0;");
        Check.is("both have 9 of each", x.look(0) * 10 + x.look(1), 1);
        DyeStreets y = Check.of(city);
        Check.is("both have 0 of each", y.look(0) * 10 + y.look(1), 1);
        DyeStreets z = withWork(city + "person 0 1;", "dip 0 0;dip 1 1;");
        Check.is("madder 9 0 0, indigo 9 0 0, weld 9 9 0: three by 0, three by 9", z.look(1), 3);
        Check.book(z, "0 9;");
        Check.is("two are left: indigo by 9 or 0, both", z.look(0) * 10 + z.look(1), 12);
    }

    static void p25_theFewestOfTheMost() {
        DyeStreets x = withWork("street 1 1 1 0;street 0 2 2 0;street 0 0 3 0;" + "person 0 1;".repeat(4),
                "dip 0 0;dip 1 1;dip 2 2;");
        Check.is("madder 1 0 0 0: six by 0; indigo 1 2 0 0: five by 0; weld 1 2 3 0: three by any", x.look(0), 2);
        Check.is("three", x.look(1), 3);
        Check.book(x, "2 3;");
        Check.is("three are left of 2: by madder 0 all, by indigo 0 all", x.look(0), 0);
        Check.is("three", x.look(1), 3);
        Check.book(x, "2 2;");
        Check.is("three are left of 1: by madder 0 all, by indigo 2 all", x.look(1), 3);
        Check.book(x, "2 2;0 1;");
        Check.is("one is left", x.look(0) * 10 + x.look(1), 11);
    }

    // ---- 26: match

    private static void matches(String name, DyeStreets x, int pairs, int distances, int... brides) {
        Check.is(name + ": pairs", x.match(0), pairs);
        Check.is(name + ": distances", x.match(1), distances);
        for (int p = 0; p < brides.length; p++) {
            Check.is(name + ": bride of " + p, x.bride(p), brides[p]);
        }
        Check.is(name + ": pairs, asked again", x.match(0), pairs);
        Check.is(name + ": distances, asked again", x.match(1), distances);
    }

    static void p26_bounds() {
        DyeStreets x = Check.of(EIGHT);
        Telling.illegalBeyond("match", 0, 1, n -> x.match(n));
    }

    static void p26_nobodyIsToMarry() {
        matches("nobody", new DyeStreets(), 0, 0);
        matches("one", Check.of("street 1 1 1 1;person 0 1;"), 0, 0, -1);
        matches("one street", Check.of("street 1 1 1 1;" + "person 0 1;".repeat(8)), 0, 0, -1, -1, -1, -1, -1, -1, -1, -1);
        matches("alike vats are not one street", Check.of("street 1 1 1 1;street 1 1 1 1;person 0 1;person 1 1;"), 1, 0, 1, 0);
    }

    static void p26_eightAreToMarry() {
        matches("eight", Check.of(EIGHT), 4, 0, 1, 0, 3, 2, 5, 4, 7, 6);
        matches("eight, one farther off", withWork(EIGHT, "dip 4 0;"), 4, 1, 1, 0, 3, 2, 5, 4, 7, 6);
        String city = "street 3 3 0 0;street 0 0 1 0;" + "person 0 1;".repeat(4) + "person 1 1;".repeat(4);
        matches("four far pairs", withWork(city, "dip 0 0;dip 1 0;dip 2 0;dip 3 0;"), 4, 24, 4, 5, 6, 7, 0, 1, 2, 3);
    }

    static void p26_distance6AtMost() {
        String city = "street 6 0 0 0;street 0 0 1 0;person 0 1;person 1 1;";
        matches("6", withWork(city, "dip 0 0;"), 1, 6, 1, 0);
        matches("7", withWork(city, "dip 0 0;dip 1 1;"), 0, 0, -1, -1);
    }

    static void p26_marriedOnesAreLeftOut() {
        matches("one pair of two", withWork("street 1 0 0 0;street 0 1 0 0;person 0 1;person 1 1;", "marry 0 1;"), 0, 0, -1, -1);
        matches("three pairs of four", withWork(EIGHT, "marry 0 7;"), 3, 0, -1, 2, 1, 4, 3, 6, 5, -1);
        matches("married within a street", withWork(EIGHT, "marry 0 2;"), 2, 0, -1, 4, -1, 6, 1, -1, 3, -1);
    }

    static void p26_mostPairsAheadOfLeastDistances() {
        DyeStreets x = withWork("street 3 0 0 0;street 0 6 0 0;street 0 0 6 0;person 0 1;person 1 1;person 0 1;person 1 1;",
                "dip 0 0;dip 1 0;dip 2 0;dip 3 0;dip 2 1;dip 3 2;");
        matches("two far ones for one near one", x, 2, 12, 3, 2, 1, 0);
    }

    static void p26_leastDistancesAheadOfTheFirst() {
        DyeStreets x = withWork("street 1 0 0 0;street 0 0 0 0;person 0 1;person 1 1;person 1 1;", "dip 0 0;dip 2 0;");
        matches("0 with 2, not with 1", x, 1, 0, 2, -1, 0);
    }

    // ---- 27: bride

    static void p27_noSuchPerson() {
        DyeStreets x = Check.of(EIGHT);
        Telling.missingBeyond("bride", 8, n -> x.bride(n));
        Check.missing("nobody", () -> new DyeStreets().bride(0));
    }

    static void p27_askedAheadOfMatchAndBehindEachChange() {
        DyeStreets x = Check.of(EIGHT);
        Check.is("at first", x.bride(6), 7);
        Check.work(x, "marry 6 1;");
        Check.is("married", x.bride(6), -1);
        Check.is("another for 0", x.bride(0), 3);
        Check.is("undo", x.undo(), 0);
        Check.is("as at first", x.bride(0), 1);
    }

    static void p27_ofAlikeWaysTheFirstPersonByPerson() {
        matches("the least one ahead", Check.of("street 1 0 0 0;street 0 1 0 0;person 0 1;person 1 1;person 0 1;person 1 1;"),
                2, 0, 1, 0, 3, 2);
        matches("unmarried last", Check.of("street 1 0 0 0;street 0 1 0 0;person 0 1;person 0 1;person 1 1;"),
                1, 0, 2, -1, 0);
        matches("unmarried last, the others ahead", Check.of("street 1 0 0 0;street 0 1 0 0;person 1 1;person 0 1;person 0 1;"),
                1, 0, 1, 0, -1);
        matches("three streets", Check.of("street 1 0 0 0;street 0 1 0 0;street 0 0 1 0;"
                + "person 0 1;person 0 1;person 1 1;person 2 1;"), 2, 0, 2, 3, 0, 1);
    }

    static void p27_nothingStaysChanged() {
        DyeStreets x = Telling.lived();
        Telling.unchanged(x, "match", () -> x.match(0), () -> x.bride(0), () -> x.fits(1), () -> x.look(0));
    }

    // ---- 28: enough

    static void p28_bitsOfNoStreets() {
        for (int many = 0; many <= 6; many++) {
            DyeStreets x = Check.of("street 1 1 1 1;".repeat(many));
            int most = (1 << many) - 1;
            Telling.illegalBeyond("enough, " + many + " streets", 0, most, n -> x.enough(n));
            Check.illegal("a bit far off", () -> x.enough(1 << 16));
            Check.is("all", x.enough(most), 0);
        }
    }

    static void p28_now() {
        DyeStreets x = Check.of("street 9 0 9 0;street 1 0 9 0;street 0 1 0 0;stock 0 9;stock 1 0;stock 2 18;river 2;");
        Check.is("no streets told", x.enough(0), 0);
        Check.is("just as much", x.enough(1), 0);
        Check.is("1 short", x.enough(3), 1);
        Check.is("a dip of another dye", x.enough(4), 1);
        Check.is("not asked of others", x.enough(2), 0);
    }

    static void p28_eachDyeMustDo() {
        for (int dye = 0; dye < 3; dye++) {
            DyeStreets x = Check.of("street 5 5 5 0;stock " + dye + " 1;river 2;");
            Check.is("4 short of dye " + dye, x.enough(1), 2);
        }
    }

    static void p28_notIn100Years() {
        DyeStreets x = Check.of("street 1 0 0 0;street 0 0 0 0;stock 0 0;river 0;");
        Check.is("never", x.enough(1), -1);
        Check.is("never", x.enough(3), -1);
        Check.is("a vat of nothing", x.enough(2), 0);
        DyeStreets y = Check.of("street 9 9 9 0;".repeat(6) + "stock 0 0;stock 1 50;stock 2 200;river 1;");
        Check.is("54 years", y.enough(63), 54);
        Check.is("45 years", y.enough(62), 45);
        Check.is("9 years", y.enough(32), 9);
        Telling.unchanged(y, "enough", () -> y.enough(63));
    }

    // ---- 29: level

    static void p29_noSuchDyeIsAheadOfAWrongN() {
        DyeStreets x = new DyeStreets();
        Telling.missingBeyond("level", 3, n -> x.level(n, 1));
        Check.missing("3 by 0", () -> x.level(3, 0));
        Check.missing("-1 by 100", () -> x.level(-1, 100));
        Check.is("illegal", x.status(1), 0);
        Telling.illegalBeyond("level of 2", 1, 99, n -> x.level(2, n));
    }

    static void p29_nineAtMost() {
        DyeStreets x = Check.of("stock 0 200;stock 1 0;stock 2 9;");
        Check.is("200 by 1", x.level(0, 1), 9);
        Check.is("200 by 22", x.level(0, 22), 9);
        Check.is("200 by 23", x.level(0, 23), 8);
        Check.is("200 by 25", x.level(0, 25), 8);
        Check.is("200 by 26", x.level(0, 26), 7);
        Check.is("200 by 99", x.level(0, 99), 2);
        Check.is("none by 1", x.level(1, 1), 0);
        Check.is("none by 99", x.level(1, 99), 0);
        Check.is("9 by 1", x.level(2, 1), 9);
        Check.is("9 by 9", x.level(2, 9), 1);
        Check.is("9 by 10", x.level(2, 10), 0);
        Check.is("9 by 2", x.level(2, 2), 4);
    }

    // ---- 30: night

    private static void night(int n, int q, long above, long below) {
        DyeStreets x = new DyeStreets();
        Check.is("above, " + n + " by " + q, x.night(n, q, 0), above);
        Check.is("below, " + n + " by " + q, x.night(n, q, 1), below);
    }

    static void p30_bounds() {
        DyeStreets x = new DyeStreets();
        for (int n : new int[] {0, 2, 4, 6, 8, 10, 11, -1, -9, Integer.MIN_VALUE, Integer.MAX_VALUE}) {
            Check.illegal("n " + n, () -> x.night(n, 8, 0));
        }
        Telling.illegalBeyond("q", 0, 16, q -> x.night(9, q, 0));
        Telling.illegalBeyond("part", 0, 1, part -> x.night(1, 8, part));
        Check.is("refused", x.status(1), 19);
    }

    static void p30_neverAndAlwaysRight() {
        for (int n = 1; n <= 9; n += 2) {
            night(n, 0, 0, 1);
            night(n, 16, 1, 1);
            night(n, 8, 1, 2);
        }
    }

    static void p30_inLeastTerms() {
        night(1, 1, 1, 16);
        night(1, 2, 1, 8);
        night(1, 12, 3, 4);
        night(1, 15, 15, 16);
        night(3, 1, 23, 2048);
        night(3, 4, 5, 32);
        night(3, 12, 27, 32);
        night(5, 5, 94375, 524288);
        night(5, 12, 459, 512);
        night(7, 6, 127413, 524288);
        night(7, 14, 521017, 524288);
        night(9, 1, 3335243, 34359738368L);
        night(9, 4, 6413, 131072);
        night(9, 9, 22356128547L, 34359738368L);
        night(9, 15, 34356403125L, 34359738368L);
    }

    // ---- 31: guilds

    static void p31_bounds() {
        DyeStreets x = Check.of(Telling.TOWN);
        Telling.illegalBeyond("guilds", 0, 2, n -> x.guilds(n));
        DyeStreets y = new DyeStreets();
        Telling.illegalBeyond("guilds, no streets", 0, 2, n -> y.guilds(n));
    }

    private static void guilds(String name, DyeStreets x, int rests, int first, int both) {
        Check.is(name + ": rests", x.guilds(0), rests);
        Check.is(name + ": the first", x.guilds(1), first);
        Check.is(name + ": both have", x.guilds(2), both);
    }

    static void p31_noneWithoutStreets() {
        guilds("no streets", new DyeStreets(), 0, -1, 0);
    }

    static void p31_nobodyGoes() {
        guilds("nobody there", Check.of("street 1 1 1 1;".repeat(6)), 36, 0, 0);
        guilds("one street", Check.of("street 1 1 1 1;person 0 1;"), 1, 0, 0);
        guilds("alike vats", Check.of("street 1 1 1 1;street 1 1 1 1;person 0 1;"), 4, 0, 0);
    }

    /** 210, 021, 102 go from 300 to 030 to 003 and on, each from another on: whoever has fewer has a better street. */
    static void p31_noneRests() {
        DyeStreets x = withWork("street 3 0 0 0;street 0 3 0 0;street 0 0 3 0;" + "person 0 1;".repeat(3),
                "dip 0 0;dip 0 1;dip 1 1;dip 1 2;dip 2 2;dip 2 0;year;year;year;salt 0;year;salt 1;year;salt 2;year;");
        Check.is("210", x.person(0, 2), 210);
        Check.is("21", x.person(1, 2), 21);
        Check.is("102", x.person(2, 2), 102);
        Check.is("two of three", x.follows(0, 1) * 100 + x.follows(1, 2) * 10 + x.follows(2, 0), 222);
        guilds("none rests", x, 0, -1, 0);
    }

    static void p31_tenTimesTheOnesStreetAndTheOthers() {
        DyeStreets x = withWork("street 9 9 9 0;street 9 9 8 0;street 9 8 9 0;street 8 9 9 0;street 1 0 0 0;street 0 1 0 0;"
                + "person 0 1;person 0 1;", "dip 0 4;dip 1 5;");
        guilds("4 and 5, 5 and 4", x, 2, 45, 2);
    }

    static void p31_neitherWouldHaveMore() {
        DyeStreets x = withWork("street 1 0 0 0;street 3 0 0 0;person 0 1;person 0 1;", "dip 0 0;dip 1 1;");
        guilds("each its own", x, 2, 1, 2);
        DyeStreets y = withWork("street 0 1 0 0;street 9 9 9 0;street 1 0 0 0;person 0 1;", "dip 0 2;");
        guilds("the other has none anyhow", y, 5, 2, 1);
    }

    // ---- 32: follows

    static void p32_noSuchStreet() {
        DyeStreets x = Check.of(Telling.TOWN);
        Telling.missingBeyond("follows", 3, n -> x.follows(n, 0));
        Telling.missingBeyond("follows, other", 3, n -> x.follows(0, n));
        Check.missing("both", () -> x.follows(3, 3));
        Check.is("missing", x.status(0), 9);
    }

    static void p32_byAlikeDistanceWithNeither() {
        DyeStreets x = Check.of("street 2 0 0 0;street 0 2 0 0;street 0 1 0 0;street 0 2 0 0;" + "person 0 1;".repeat(8));
        Check.is("alike", x.follows(0, 1) + x.follows(1, 0), 0);
        Check.is("alike vats", x.follows(1, 3) + x.follows(3, 1), 0);
        Check.is("itself", x.follows(2, 2), 0);
        Check.is("nearer by 1", x.follows(2, 0), 8);
        Check.is("farther by 1", x.follows(0, 2), 0);
        Check.is("nobody", Check.of("street 1 1 1 1;street 0 0 0 0;").follows(1, 0), 0);
    }

    // ---- 33: ahead

    static void p33_bounds() {
        DyeStreets x = Check.of(Telling.TOWN);
        Telling.illegalBeyond("ahead", 0, 100, n -> x.ahead(n, 0));
        Telling.illegalBeyond("ahead, what", 0, 2, n -> x.ahead(0, n));
    }

    static void p33_in0Years() {
        DyeStreets x = withWork(Telling.TOWN, "dip 0 0;dip 1 1;dip 2 2;salt 2;");
        Check.law(x, "age-9");
        Check.is("sit", x.ahead(0, 0), 3);
        Check.is("dyes", x.ahead(0, 1), 14);
        Check.is("shades", x.ahead(0, 2), 4);
        Check.is("dyes in 1", x.ahead(1, 1), 13);
        Check.is("sit in 9", x.ahead(9, 0), 3);
        Check.is("sit in 10", x.ahead(10, 0), 4);
    }

    static void p33_in100Years() {
        DyeStreets x = withWork("street 9 9 9 0;person 0 60;person 0 0;", "dip 0 0;salt 0;");
        Check.law(x, "age-159");
        Check.is("sit in 99", x.ahead(99, 0), 0);
        Check.is("sit in 100", x.ahead(100, 0), 1);
        Check.is("dyes", x.ahead(100, 1), 0);
        Check.is("dyes in 27", x.ahead(27, 1), 1);
        Check.is("shades in 27", x.ahead(27, 2), 2);
        Check.is("dyes in 28", x.ahead(28, 1), 0);
        Check.is("shades in 28", x.ahead(28, 2), 1);
        Check.is("nobody there", new DyeStreets().ahead(100, 2), 0);
    }

    static void p33_beyondYear300AndNothingStaysChanged() {
        DyeStreets x = withWork("street 9 9 9 0;person 0 60;", "again 60[year;year;];again 39[year;];");
        Check.is("more", Check.work(x, "again 60[year;year;];again 20[year;];"), 140);
        Check.law(x, "year-398");
        Check.is("in 100", x.ahead(100, 0), 1);
        Check.is("in 99", x.ahead(99, 0), 0);
        Telling.unchanged(x, "ahead", () -> x.ahead(100, 1));
    }

    // ---- 34: ages

    static void p34_bounds() {
        DyeStreets x = Check.of(Telling.TOWN);
        Telling.illegalBeyond("q", 0, 16, n -> x.ages(1, n, 1, 0));
        Telling.illegalBeyond("years", 1, 96, n -> x.ages(1, 0, n, 0));
        Telling.illegalBeyond("what", 0, 3, n -> x.ages(1, 0, 1, n));
        Check.is("refused", x.status(1), 12);
    }

    /** The first DRAW by 16 is 6 of the seed 1, 0 of the seed 0, 15 of the seed 5. */
    static void p34_rainBelowQ() {
        DyeStreets x = Check.of("street 1 0 0 0;person 0 1;person 0 1;");
        Check.is("6 is not below 6", x.ages(1, 6, 1, 2), 0);
        Check.is("6 is below 7", x.ages(1, 7, 1, 2), 1);
        Check.is("0 is not below 0", x.ages(0, 0, 1, 2), 0);
        Check.is("0 is below 1", x.ages(0, 1, 1, 2), 1);
        Check.is("15 is not below 15", x.ages(5, 15, 1, 2), 0);
        Check.is("15 is below 16", x.ages(5, 16, 1, 2), 1);
        Check.is("each year", x.ages(77, 16, 96, 2), 96);
        Check.is("no year", x.ages(77, 0, 96, 2), 0);
    }

    static void p34_rainThatCannotBeDone() {
        Check.is("one person", Check.of("street 1 0 0 0;person 0 1;").ages(9, 16, 96, 2), 0);
        DyeStreets x = withWork("street 1 0 0 0;person 0 1;person 0 1;", "salt 1;");
        Check.is("the first year one is salted", x.ages(9, 16, 1, 2), 0);
        Check.is("the second year nobody is", x.ages(9, 16, 2, 2), 1);
        Check.is("ninety-six", x.ages(9, 16, 96, 2), 95);
    }

    static void p34_dipsThatCannotBeDone() {
        Check.is("a vat of nothing", Check.of("street 0 0 0 0;person 0 1;").ages(3, 0, 96, 1), 0);
        Check.is("no stock", Check.of("street 1 0 0 0;person 0 1;stock 0 0;river 0;").ages(3, 0, 96, 1), 0);
        Check.is("stock for three", Check.of("street 1 0 0 0;person 0 1;stock 0 3;river 0;").ages(3, 0, 96, 1), 3);
        Check.is("a river behind the dip", Check.of("street 1 0 0 0;person 0 1;stock 0 0;river 1;").ages(3, 0, 2, 1), 1);
        Check.is("weld stays at 9 in two years of three", Check.of("street 0 0 9 0;person 0 1;stock 2 200;river 20;")
                .ages(3, 0, 4, 1), 2);
    }

    static void p34_withoutPersonsOrStreets() {
        for (String city : new String[] {"", "street 1 1 1 1;"}) {
            DyeStreets x = Check.of(city);
            for (int what = 0; what < 4; what++) {
                Check.is("what " + what, x.ages(1, 16, 96, what), 0);
            }
        }
    }

    /** The seed 1 draws 16838 for the sky, 5758 for who, 10113 for where; then 17515, 31051, 5627. */
    static void p34_aPersonThenAStreetThenTheYear() {
        DyeStreets x = Check.of(Telling.TOWN);
        Check.law(x, "madder-1");
        Check.is("2 in street 0, a year fades it", x.ages(1, 0, 1, 0), 1);
        Check.law(x, "madder-2");
        Check.is("it has faded", x.ages(1, 0, 1, 0), 0);
        Check.law(x, "(age-30)*dips");
        Check.is("it is 2, aged 31", x.ages(1, 0, 1, 0), 1);
        Check.law(x, "weld");
        Check.is("then 3 in street 2", x.ages(1, 0, 2, 0), 1);
        Check.law(x, "2-age");
        Check.is("nobody else is so young", x.ages(1, 0, 1, 0), 1);
        Check.is("two shades", x.ages(1, 0, 1, 3), 2);
        Check.is("three", x.ages(1, 0, 2, 3), 3);
    }

    /** The DRAWS of a seed one behind the other, told in another way than by wrapping numbers. */
    private static int[] draws(int seed, int many) {
        int[] all = new int[many];
        long state = seed & 0xffffffffL;
        for (int k = 0; k < many; k++) {
            state = (state * 1103515245L + 12345L) % 4294967296L;
            all[k] = (int) (state / 65536 % 32768);
        }
        return all;
    }

    static void p34_seedsWrap() {
        DyeStreets x = Check.of(Telling.TOWN);
        int[] seeds = {Integer.MAX_VALUE, Integer.MIN_VALUE, -1, 0, 1000000000};
        for (int seed : seeds) {
            int[] draws = draws(seed, 30);
            for (int q = 0; q <= 16; q += 8) {
                int rains = 0;
                for (int year = 0; year < 10; year++) {
                    rains += draws[3 * year] % 16 < q ? 1 : 0;
                }
                Check.is("rains of seed " + seed + " by " + q, x.ages(seed, q, 10, 2), rains);
            }
        }
    }

    static void p34_bits16To30OfTheSeed() {
        DyeStreets x = Check.of("street 5 0 0 0;street 0 5 0 0;street 0 0 5 0;" + "person 0 1;".repeat(7));
        Check.law(x, "indigo*2-weld");
        for (int seed = 0; seed < 60; seed++) {
            int[] draws = draws(seed, 6);
            int first = draws[2] % 3 == 1 ? 1 : 0;
            int second = draws[5] % 3 == 1 ? 1 : 0;
            Check.is("indigo by seed " + seed, x.ages(seed, 0, 1, 0), first);
            if (draws[1] % 7 != draws[4] % 7) {
                Check.is("indigo by seed " + seed + " in two years", x.ages(seed, 0, 2, 0), first + second);
            }
            boolean alike = draws[2] % 3 == draws[5] % 3 && draws[2] % 3 != 0;
            Check.is("shades by seed " + seed + " in two years", x.ages(seed, 0, 2, 3),
                    draws[1] % 7 == draws[4] % 7 || alike ? 2 : 3);
        }
    }

    static void p34_nothingStaysChanged() {
        DyeStreets x = Telling.lived();
        Telling.unchanged(x, "ages", () -> x.ages(4, 8, 96, 0), () -> x.span(4, 20, 8, 96, 2), () -> x.ages(5, 16, 1, 3));
        Check.is("asked again it is the same", x.ages(4, 8, 96, 1), x.ages(4, 8, 96, 1));
    }

    static void p34_beyondYear300() {
        DyeStreets x = withWork("street 9 9 9 0;person 0 60;", "again 60[year;year;];again 39[year;];");
        Check.is("more", Check.work(x, "again 60[year;year;];again 20[year;];"), 140);
        Check.law(x, "year-394");
        Check.is("in year 395", x.ages(1, 0, 96, 0), 1);
        Check.is("in year 394", x.ages(1, 0, 95, 0), 0);
    }

    // ---- 35: span

    static void p35_bounds() {
        DyeStreets x = Check.of(Telling.TOWN);
        Telling.illegalBeyond("many", 1, 20, n -> x.span(1, n, 0, 1, 0));
        Telling.illegalBeyond("q", 0, 16, n -> x.span(1, 1, n, 1, 0));
        Telling.illegalBeyond("years", 1, 96, n -> x.span(1, 1, 0, n, 0));
        Telling.illegalBeyond("what", 0, 2, n -> x.span(1, 1, 0, 1, n));
        Check.is("refused", x.status(1), 16);
    }

    static void p35_oneSeedAndTwenty() {
        DyeStreets x = Check.of(EIGHT);
        Check.law(x, "dips-2");
        int fewest = 9;
        int most = 0;
        int nobody = 0;
        for (int many = 1; many <= 20; many++) {
            int shades = x.ages(99 + many, 2, 6, 3);
            fewest = Math.min(fewest, shades);
            most = Math.max(most, shades);
            nobody += x.ages(99 + many, 2, 6, 0) == 0 ? 1 : 0;
            Check.is("fewest of " + many, x.span(100, many, 2, 6, 0), fewest);
            Check.is("most of " + many, x.span(100, many, 2, 6, 1), most);
            Check.is("nobody of " + many, x.span(100, many, 2, 6, 2), nobody);
        }
        Check.is("they are unlike", fewest < most && nobody > 0 && nobody < 20, true);
    }

    static void p35_noneAndAll() {
        Check.is("nobody there: fewest", new DyeStreets().span(1, 20, 16, 96, 0), 0);
        Check.is("nobody there: most", new DyeStreets().span(1, 20, 16, 96, 1), 0);
        Check.is("nobody there: nobody sits", new DyeStreets().span(1, 20, 16, 96, 2), 20);
        DyeStreets x = Check.of(EIGHT);
        Check.law(x, "1");
        Check.is("somebody always sits", x.span(1, 20, 8, 96, 2), 0);
        Check.law(x, "0");
        Check.is("nobody ever sits", x.span(1, 20, 8, 96, 2), 20);
        Check.is("one shade always: fewest", Check.of("street 0 0 0 0;person 0 1;").span(1, 20, 8, 96, 0), 1);
    }

    static void p35_seedsWrap() {
        DyeStreets x = Check.of(EIGHT);
        int least = Math.min(x.ages(Integer.MAX_VALUE, 3, 5, 3), x.ages(Integer.MIN_VALUE, 3, 5, 3));
        int most = Math.max(x.ages(Integer.MAX_VALUE, 3, 5, 3), x.ages(Integer.MIN_VALUE, 3, 5, 3));
        Check.is("fewest", x.span(Integer.MAX_VALUE, 2, 3, 5, 0), least);
        Check.is("most", x.span(Integer.MAX_VALUE, 2, 3, 5, 1), most);
    }

    // ---- 36: image

    static void p36_threeAtMost() {
        DyeStreets x = Check.of(Telling.TOWN);
        for (int k = 1; k <= 3; k++) {
            Check.is("image", x.image(), k);
            Check.work(x, "year;");
        }
        Check.is("a fourth", x.image(), -1);
        Check.is("images", x.count(0), 3);
        Check.is("a fourth changes nothing", x.restore(), 2);
        Check.is("year 2, not 3", x.told(2), 2);
        Check.is("there is room again", x.image(), 3);
        Check.is("but for one", x.image(), -1);
        Telling.unchanged(x, "an image too many", () -> x.image());
    }

    static void p36_sixteenWorksInEach() {
        DyeStreets x = Check.of(Telling.TOWN);
        for (int image = 1; image <= 3; image++) {
            for (int k = x.count(2); k < 16; k++) {
                Check.is("work", Check.work(x, image == 2 ? "year;year;" : "year;"), image == 2 ? 2 : 1);
            }
            Check.is("image", x.image(), image);
            for (int k = 0; k < 16; k++) {
                Check.is("undo", x.undo(), 15 - k);
            }
        }
        for (int image = 3; image >= 1; image--) {
            Check.is("restore", x.restore(), image - 1);
            Check.is("works", x.count(2), 16);
            Check.is("year", x.told(2), image == 2 ? 32 : 16);
            Check.is("a seventeenth", Check.work(x, "year;"), -20);
            for (int k = 15; k >= 0; k--) {
                x.undo();
                Check.is("year behind undo", x.told(2), image == 2 ? 2 * k : k);
            }
        }
    }

    // ---- 37: restore

    static void p37_noneIsThere() {
        DyeStreets x = Telling.lived();
        Check.is("one", x.restore(), 0);
        String before = Check.all(x);
        Check.is("none", x.restore(), -1);
        Check.is("none", x.restore(), -1);
        Check.same("nothing is done", Check.all(x), before);
        Check.is("none at first", new DyeStreets().restore(), -1);
    }

    static void p37_allIsAsInTheLatestWhichIsGone() {
        DyeStreets x = Telling.lived();
        Check.work(x, "");
        String before = Check.all(x);
        Check.is("image", x.image(), 2);
        Check.is("work", Check.work(x, "dip 0 1;dip 3 0;salt 0;wash 1;dip 1 0;marry 1 0;rain;year;salt 3;"), 9);
        Check.is("undo", x.undo() + x.undo() + x.undo(), 6);
        Check.is("restore", x.restore(), 1);
        Check.same("all", Check.all(x), before);
        Check.is("the one ahead of it", x.restore(), 0);
        Check.is("year 1", x.told(2), 1);
        Check.is("one work", x.undo(), 0);
        Check.is("white", x.told(8), 1);
    }

    static void p37_lawBookTapeFaultStay() {
        DyeStreets x = Check.of(Telling.TOWN);
        x.image();
        Check.law(x, "1");
        Check.book(x, "0 1;1 1;");
        Check.work(x, "year;?");
        Check.feed(x, "year;");
        Check.is("restore", x.restore(), 0);
        Check.is("law", x.told(3), 4);
        Check.is("book", x.told(6), 2);
        Check.is("fault", x.fault(), 5);
        Check.is("tape", x.count(1), 20);
        Check.is("tape", x.work(5), 1);
    }

    // ---- 38: status

    private static int step;

    private static void counted(DyeStreets x, boolean missing, Check.Call call) {
        step++;
        int before0 = x.status(0);
        int before1 = x.status(1);
        if (missing) {
            Check.missing("call " + step, call);
        } else {
            Check.illegal("call " + step, call);
        }
        Check.is("missing by call " + step, x.status(0) - before0, missing ? 1 : 0);
        Check.is("illegal by call " + step, x.status(1) - before1, missing ? 0 : 1);
    }

    static void p38_eachRefusedCallIsCountedOnceByItsReason() {
        DyeStreets x = Telling.lived();
        String before = Check.all(x);
        counted(x, false, () -> x.city(1));
        counted(x, false, () -> x.law(1));
        counted(x, false, () -> x.work(1));
        counted(x, false, () -> x.book(1));
        counted(x, false, () -> x.told(10));
        counted(x, true, () -> x.street(3, 4));
        counted(x, false, () -> x.street(0, 4));
        counted(x, true, () -> x.person(4, 8));
        counted(x, false, () -> x.person(0, 8));
        counted(x, true, () -> x.stock(3));
        counted(x, false, () -> x.would(1000, 401, 10, 100, 301, 2) ? 1 : 0);
        counted(x, false, () -> x.distance(1000, -1));
        counted(x, false, () -> x.seems(1000));
        counted(x, true, () -> x.dipped(1000, 3));
        counted(x, false, () -> x.dipped(1000, 0));
        counted(x, true, () -> x.when(4, 2));
        counted(x, false, () -> x.when(0, 2));
        counted(x, true, () -> x.sits(4, 31));
        counted(x, false, () -> x.sits(0, 31));
        counted(x, false, () -> x.way(1000, -1));
        counted(x, false, () -> x.step(1000, -1, -1));
        counted(x, false, () -> x.sums(1000, 2));
        counted(x, false, () -> x.tones(1000));
        counted(x, false, () -> x.fits(2));
        counted(x, false, () -> x.look(2));
        counted(x, false, () -> x.match(2));
        counted(x, true, () -> x.bride(4));
        counted(x, false, () -> x.enough(8));
        counted(x, true, () -> x.level(3, 0));
        counted(x, false, () -> x.level(0, 0));
        counted(x, false, () -> x.night(2, 17, 2));
        counted(x, false, () -> x.guilds(3));
        counted(x, true, () -> x.follows(3, -1));
        counted(x, false, () -> x.ahead(101, 3));
        counted(x, false, () -> x.ages(1, 17, 0, 4));
        counted(x, false, () -> x.span(1, 0, 17, 0, 3));
        Check.is("missing", x.status(0), 9);
        Check.is("illegal", x.status(1), 27);
        Check.same("nothing is changed", Check.all(x), before);
    }

    static void p38_noneForOthers() {
        DyeStreets x = new DyeStreets();
        Check.is("0", x.status(0), 0);
        Check.is("1", x.status(1), 0);
        for (int what : new int[] {-1, 2, Integer.MIN_VALUE, Integer.MAX_VALUE}) {
            Check.is("status " + what, x.status(what), -1);
        }
        Check.is("that is no refusal", x.status(0) + x.status(1), 0);
    }

    static void p38_whatIsAnsweredIsNoRefusal() {
        DyeStreets x = new DyeStreets();
        Check.is("undo", x.undo(), -1);
        Check.is("restore", x.restore(), -1);
        Check.is("a fault", x.law(0), -9);
        Check.is("a fourth image", x.image() + x.image() + x.image() + x.image(), 5);
        for (int k = 0; k < 17; k++) {
            Check.is("work", x.work(0), k == 16 ? -20 : 0);
        }
        for (int k = 0; k < 31; k++) {
            Check.is("feed", x.feed(0, 0, 0, 0, 0), k == 30 ? -1 : 20 * k + 20);
        }
        Check.is("status, count", x.status(5) + x.count(5), -2);
        Check.is("refusals", x.status(0) + x.status(1), 0);
    }

    static void p38_noImageKeepsIt() {
        DyeStreets x = Check.of(Telling.TOWN);
        Check.missing("stock 3", () -> x.stock(3));
        Check.work(x, "year;");
        x.image();
        Check.missing("stock 3", () -> x.stock(3));
        Check.illegal("told 10", () -> x.told(10));
        Check.is("restore", x.restore(), 0);
        Check.is("missing", x.status(0), 2);
        Check.is("illegal", x.status(1), 1);
        Check.is("undo", x.undo(), 0);
        Check.is("city", Check.city(x, ""), 0);
        Check.is("missing", x.status(0), 2);
        Check.is("illegal", x.status(1), 1);
    }

    // ---- 39: count

    static void p39_noneForOthers() {
        DyeStreets x = Telling.lived();
        for (int what : new int[] {-1, 3, Integer.MIN_VALUE, Integer.MAX_VALUE}) {
            Check.is("count " + what, x.count(what), -1);
        }
        Check.is("that is no refusal", x.status(0) + x.status(1), 0);
    }

    static void p39_fromNoneToTheMost() {
        DyeStreets x = new DyeStreets();
        Check.is("none", x.count(0) * 100 + x.count(1) * 10 + x.count(2), 0);
        for (int k = 0; k < 20; k++) {
            x.work(0);
            x.image();
        }
        for (int k = 0; k < 40; k++) {
            x.feed(0, 0, 0, 0, 0);
        }
        Check.is("images", x.count(0), 3);
        Check.is("bytes", x.count(1), 600);
        Check.is("works", x.count(2), 16);
        Check.is("restore", x.restore(), 2);
        Check.is("images", x.count(0), 2);
        Check.is("works of the image", x.count(2), 3);
        Check.is("the tape stays", x.count(1), 600);
        Check.is("city", x.city(0), 0);
        Check.is("none", x.count(0) * 100 + x.count(1) * 10 + x.count(2), 0);
    }
}
