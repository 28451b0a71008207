/** The boundaries that the document names in the promises 10 to 23: streets, people, the law, shades and dips. */
public final class Bounds10To23Test {
    /** One vat of each dye. */
    private static final String PURE = "street 1 0 0 0;street 0 1 0 0;street 0 0 1 0;";

    public static void main(String[] args) throws IllegalAccessException {
        Cases.run(Bounds10To23Test.class, 10, 23);
    }

    private static DyeStreets withLaw(String city, String law) {
        DyeStreets x = Check.of(city);
        Check.is("law " + law, Check.law(x, law), 1);
        return x;
    }

    // ---- 10: street

    static void p10_noSuchStreet() {
        DyeStreets x = Check.of(Telling.TOWN);
        Telling.missingBeyond("street", 3, n -> x.street(n, 0));
        Telling.missingBeyond("street", 6, n -> Check.of("street 1 1 1 1;".repeat(6)).street(n, 0));
        Check.missing("no streets", () -> new DyeStreets().street(0, 0));
    }

    static void p10_noSuchStreetIsAheadOfAnotherWhat() {
        DyeStreets x = Check.of(Telling.TOWN);
        Check.missing("3, 4", () -> x.street(3, 4));
        Check.missing("-1, -1", () -> x.street(-1, -1));
        Check.is("missing", x.status(0), 2);
        Check.is("illegal", x.status(1), 0);
    }

    static void p10_anotherWhat() {
        DyeStreets x = Check.of(Telling.TOWN);
        Telling.illegalBeyond("street 2", 0, 3, n -> x.street(2, n));
    }

    static void p10_noneAndAllAreOfAStreet() {
        DyeStreets x = Check.of("street 0 0 0 0;street 9 9 9 9;" + "person 1 1;".repeat(8));
        int[][] due = {{0, 0, 8, 0}, {999, 9, 0, 8}};
        for (int s = 0; s < 2; s++) {
            for (int what = 0; what < 4; what++) {
                Check.is("street " + s + ", " + what, x.street(s, what), due[s][what]);
            }
        }
    }

    static void p10_ofAlikeDistancesOneSeemsOfTheFirst() {
        DyeStreets x = Check.of("street 2 0 0 1;street 0 1 1 2;street 0 0 2 3;person 1 1;person 2 1;");
        Check.is("the first", x.street(0, 2), 2);
        Check.is("not another", x.street(1, 2) + x.street(2, 2), 0);
        Check.is("by birth", x.street(1, 3) * 10 + x.street(2, 3), 11);
    }

    // ---- 11: person

    static void p11_noSuchPerson() {
        DyeStreets x = Check.of(Telling.TOWN);
        Telling.missingBeyond("person", 4, n -> x.person(n, 0));
        Telling.missingBeyond("person", 8, n -> Check.of("street 1 1 1 1;" + "person 0 1;".repeat(8)).person(n, 0));
        Check.missing("no persons", () -> new DyeStreets().person(0, 0));
    }

    static void p11_noSuchPersonIsAheadOfAnotherWhat() {
        DyeStreets x = Check.of(Telling.TOWN);
        Check.missing("4, 8", () -> x.person(4, 8));
        Check.missing("-1, -1", () -> x.person(-1, -1));
        Check.is("missing", x.status(0), 2);
        Check.is("illegal", x.status(1), 0);
    }

    static void p11_anotherWhat() {
        DyeStreets x = Check.of(Telling.TOWN);
        Telling.illegalBeyond("person 3", 0, 7, n -> x.person(3, n));
    }

    static void p11_atFirstWhiteUnmarriedUnsaltedNeverDipped() {
        DyeStreets x = Check.of(Telling.TOWN);
        int[][] due = {{0, 10, 0, 0, 0, -1, 0, 0}, {1, 20, 0, 0, 0, -1, 0, 0}, {1, 30, 0, 0, 0, -1, 0, 0},
            {2, 0, 0, 0, 0, -1, 0, 0}};
        for (int p = 0; p < 4; p++) {
            for (int what = 0; what < 8; what++) {
                Check.is("person " + p + ", " + what, x.person(p, what), due[p][what]);
            }
        }
    }

    static void p11_allThatThereIs() {
        DyeStreets x = withLaw("street 9 9 9 9;street 0 0 1 0;" + "person 1 60;".repeat(8), "rank");
        Check.is("work", Check.work(x, "year;marry 7 6;dip 7 0;dip 0 1;dip 0 1;salt 7;"), 6);
        int[] due = {1, 61, 999, 0, 1, 6, 1, 1};
        int[] dueOf0 = {1, 61, 2, 1, 2, -1, 0, 0};
        for (int what = 0; what < 8; what++) {
            Check.is("person 7, " + what, x.person(7, what), due[what]);
            Check.is("person 0, " + what, x.person(0, what), dueOf0[what]);
        }
        Check.is("person 6 is married to 7", x.person(6, 5), 7);
    }

    // ---- 12: stock

    static void p12_noSuchDye() {
        DyeStreets x = new DyeStreets();
        Telling.missingBeyond("stock", 3, n -> x.stock(n));
        Check.is("missing", x.status(0), 4);
    }

    static void p12_from0To200() {
        DyeStreets x = Check.of("street 9 0 9 0;person 0 1;stock 0 9;stock 1 0;stock 2 200;river 0;");
        Check.is("9", x.stock(0), 9);
        Check.is("0", x.stock(1), 0);
        Check.is("200", x.stock(2), 200);
        Check.work(x, "dip 0 0;");
        Check.is("none is left", x.stock(0), 0);
        Check.is("191", x.stock(2), 191);
    }

    // ---- 13: would

    static void p13_eachNumberHasItsBounds() {
        DyeStreets x = withLaw("", "1");
        Telling.illegalBeyond("shade", 0, 999, n -> x.would(n, 0, 0, 0, 0, 0) ? 1 : 0);
        Telling.illegalBeyond("age", 0, 400, n -> x.would(0, n, 0, 0, 0, 0) ? 1 : 0);
        Telling.illegalBeyond("rank", 0, 9, n -> x.would(0, 0, n, 0, 0, 0) ? 1 : 0);
        Telling.illegalBeyond("dips", 0, 99, n -> x.would(0, 0, 0, n, 0, 0) ? 1 : 0);
        Telling.illegalBeyond("year", 0, 300, n -> x.would(0, 0, 0, 0, n, 0) ? 1 : 0);
        Telling.illegalBeyond("birth", 0, 1, n -> x.would(0, 0, 0, 0, 0, n) ? 1 : 0);
        Check.is("refused once each", x.status(1), 24);
        Check.illegal("all at once", () -> x.would(1000, 401, 10, 100, 301, 2) ? 1 : 0);
        Check.is("refused once", x.status(1), 25);
    }

    static void p13_theGreatestCount() {
        Check.is("age 400", withLaw("", "age-399").would(0, 400, 0, 0, 0, 0), true);
        Check.is("age 399", withLaw("", "age-399").would(0, 399, 0, 0, 0, 0), false);
        Check.is("rank 9", withLaw("", "rank-8").would(0, 0, 9, 0, 0, 0), true);
        Check.is("rank 8", withLaw("", "rank-8").would(0, 0, 8, 0, 0, 0), false);
        Check.is("dips 99", withLaw("", "dips-98").would(0, 0, 0, 99, 0, 0), true);
        Check.is("dips 98", withLaw("", "dips-98").would(0, 0, 0, 98, 0, 0), false);
        Check.is("year 300", withLaw("", "year-299").would(0, 0, 0, 0, 300, 0), true);
        Check.is("year 299", withLaw("", "year-299").would(0, 0, 0, 0, 299, 0), false);
        Check.is("birth 1", withLaw("", "birth").would(0, 0, 0, 0, 0, 1), true);
        Check.is("birth 0", withLaw("", "birth").would(0, 0, 0, 0, 0, 0), false);
        Check.is("shade 999", withLaw("", "madder*indigo*weld-728").would(999, 0, 0, 0, 0, 0), true);
        Check.is("shade 998", withLaw("", "madder*indigo*weld-728").would(998, 0, 0, 0, 0, 0), false);
        Check.is("dark 27", withLaw("", "dark-26").would(999, 0, 0, 0, 0, 0), true);
    }

    static void p13_noStreetsAndNobodyNeeded() {
        DyeStreets x = withLaw("", "rank*birth");
        Check.is("as told, though there are no streets", x.would(0, 0, 5, 0, 0, 1), true);
    }

    // ---- 14: distance

    static void p14_bounds() {
        DyeStreets x = new DyeStreets();
        Telling.illegalBeyond("distance", 0, 999, n -> x.distance(n, 0));
        Telling.illegalBeyond("distance, other", 0, 999, n -> x.distance(0, n));
        Check.is("refused", x.status(1), 8);
    }

    static void p14_from0To27() {
        DyeStreets x = new DyeStreets();
        Check.is("none", x.distance(0, 0), 0);
        Check.is("none", x.distance(999, 999), 0);
        Check.is("27", x.distance(0, 999), 27);
        Check.is("27", x.distance(999, 0), 27);
        Check.is("ways that do not make up for each other", x.distance(900, 9), 18);
        Check.is("next numbers", x.distance(99, 100), 19);
        Check.is("1", x.distance(555, 565), 1);
    }

    // ---- 15: seems

    static void p15_bounds() {
        DyeStreets x = Check.of(Telling.TOWN);
        Telling.illegalBeyond("seems", 0, 999, n -> x.seems(n));
        DyeStreets y = new DyeStreets();
        Telling.illegalBeyond("seems, no streets", 0, 999, n -> y.seems(n));
    }

    static void p15_noneWithoutStreets() {
        DyeStreets x = new DyeStreets();
        Check.is("0", x.seems(0), -1);
        Check.is("999", x.seems(999), -1);
    }

    static void p15_ofAlikeOnesTheFirst() {
        DyeStreets x = Check.of("street 5 0 0 0;street 0 5 0 0;street 0 0 5 0;street 0 5 0 0;street 9 9 9 0;street 0 0 5 0;");
        Check.is("all three alike", x.seems(0), 0);
        Check.is("1 and 3", x.seems(50), 1);
        Check.is("2 and 5", x.seems(6), 2);
        Check.is("1 and 2", x.seems(33), 1);
        Check.is("the last but one", x.seems(999), 4);
        Check.is("one street", Check.of("street 9 9 9 0;").seems(0), 0);
    }

    // ---- 16: dipped

    static void p16_noSuchStreetIsAheadOfAWrongShade() {
        DyeStreets x = Check.of(Telling.TOWN);
        Telling.missingBeyond("dipped in", 3, n -> x.dipped(0, n));
        Check.missing("1000 in 3", () -> x.dipped(1000, 3));
        Check.missing("-1 in -1", () -> x.dipped(-1, -1));
        Check.is("missing", x.status(0), 6);
        Check.is("illegal", x.status(1), 0);
    }

    static void p16_bounds() {
        DyeStreets x = Check.of(Telling.TOWN);
        Telling.illegalBeyond("dipped", 0, 999, n -> x.dipped(n, 2));
    }

    static void p16_nineAtMostAndStocksNotAsked() {
        DyeStreets x = Check.of("street 9 9 9 0;street 0 0 0 0;street 4 5 6 0;stock 0 0;stock 1 0;stock 2 0;");
        Check.is("999", x.dipped(999, 0), 999);
        Check.is("0 by all", x.dipped(0, 0), 999);
        Check.is("no stock", x.dipped(0, 2), 456);
        Check.is("just 9", x.dipped(543, 2), 999);
        Check.is("9 at most", x.dipped(639, 2), 989);
        Check.is("a vat of nothing", x.dipped(375, 1), 375);
        Check.is("nothing is gone", x.stock(0), 0);
    }

    // ---- 17: cousins

    static void p17_noneIfFewerThanTwoAreNotSalted() {
        Check.is("nobody", new DyeStreets().cousins(), -1);
        Check.is("one", Check.of("street 1 1 1 1;person 0 1;").cousins(), -1);
        DyeStreets x = Check.of("street 1 1 1 1;person 0 1;person 0 1;");
        Check.is("two", x.cousins(), 0);
        Check.work(x, "salt 1;");
        Check.is("one of them salted", x.cousins(), -1);
        Check.work(x, "salt 0;");
        Check.is("both salted", x.cousins(), -1);
    }

    static void p17_theMeanOfThoseNotSaltedCut() {
        DyeStreets x = Check.of("street 3 1 9 0;" + "person 0 1;".repeat(3));
        Check.work(x, "dip 0 0;");
        Check.is("by three", x.cousins(), 103);
        Check.work(x, "salt 2;dip 2 0;");
        Check.is("by two", x.cousins(), 104);
        Check.work(x, "wash 0;salt 1;wash 2;");
        Check.is("208 and 208", x.cousins(), 208);
        Telling.unchanged(x, "cousins", () -> x.cousins());
    }

    // ---- 18: when

    static void p18_noSuchPersonIsAheadOfAWrongHow() {
        DyeStreets x = Check.of(Telling.TOWN);
        Telling.missingBeyond("when", 4, n -> x.when(n, 0));
        Check.missing("4, 2", () -> x.when(4, 2));
        Check.is("illegal", x.status(1), 0);
        Telling.illegalBeyond("when 0", 0, 1, n -> x.when(0, n));
    }

    static void p18_nowIs0() {
        DyeStreets x = withLaw(Telling.TOWN, "1");
        Check.is("sits now", x.when(3, 1), 0);
        Check.is("never does not", x.when(3, 0), -1);
        Check.law(x, "0");
        Check.is("does not now", x.when(3, 0), 0);
        Check.is("never sits", x.when(3, 1), -1);
    }

    static void p18_sixtyYearsAtMost() {
        String city = "street 1 1 1 1;person 0 0;";
        Check.is("age 60", withLaw(city, "age-59").when(0, 1), 60);
        Check.is("age 61", withLaw(city, "age-60").when(0, 1), -1);
        Check.is("until age 60", withLaw(city, "60-age").when(0, 0), 60);
        Check.is("until age 61", withLaw(city, "61-age").when(0, 0), -1);
        Check.is("59", withLaw(city, "age-58").when(0, 1), 59);
        Check.is("1", withLaw(city, "age").when(0, 1), 1);
    }

    static void p18_theFirstYearOfThem() {
        DyeStreets x = withLaw("street 1 1 1 1;person 0 0;", "(year-7)*(9-year)");
        Check.is("only year 8", x.when(0, 1), 8);
        Check.law(x, "(year-7)*(year-9)+1");
        Check.is("all but year 8", x.when(0, 0), 8);
        Check.law(x, "1-year");
        Check.is("sits no more", x.when(0, 0), 1);
    }

    static void p18_shadesFadeAndSaltEnds() {
        DyeStreets x = withLaw("street 9 9 9 0;person 0 0;person 0 0;", "dark-26");
        Check.work(x, "dip 0 0;dip 1 0;salt 1;");
        Check.is("fades at once", x.when(0, 0), 1);
        Check.is("fades behind the salt", x.when(1, 0), 2);
        Check.law(x, "dark-1");
        Check.is("1 is left in 26 years", x.when(0, 0), 26);
        Check.is("1 is left in a year more", x.when(1, 0), 27);
        Check.law(x, "dark");
        Check.is("white in 27 years", x.when(0, 0), 27);
        Check.is("white in a year more", x.when(1, 0), 28);
    }

    static void p18_beyondYear300() {
        DyeStreets x = withLaw("street 1 0 0 0;person 0 60;", "year-359");
        Check.work(x, "again 60[year;year;];again 30[year;];");
        Check.work(x, "again 60[year;year;];again 30[year;];");
        Check.is("year 300", x.told(2), 300);
        Check.is("year 360", x.when(0, 1), 60);
        Check.law(x, "age-419");
        Check.is("age 420", x.when(0, 1), 60);
        Check.law(x, "year-360");
        Check.is("year 361", x.when(0, 1), -1);
    }

    static void p18_nothingStaysChanged() {
        DyeStreets x = Telling.lived();
        Telling.unchanged(x, "when", () -> x.when(0, 0), () -> x.when(1, 1), () -> x.when(3, 0));
    }

    // ---- 19: sits

    static void p19_noSuchPersonIsAheadOfAWrongN() {
        DyeStreets x = Check.of(Telling.TOWN);
        Telling.missingBeyond("sits", 4, n -> x.sits(n, 0));
        Check.missing("4, 31", () -> x.sits(4, 31));
        Check.is("illegal", x.status(1), 0);
        Telling.illegalBeyond("sits 0", 0, 30, n -> x.sits(0, n));
    }

    static void p19_from0To30Years() {
        DyeStreets x = withLaw("street 1 1 1 1;person 0 0;", "1");
        Check.is("0", x.sits(0, 0), 0);
        Check.is("1", x.sits(0, 1), 1);
        Check.is("29", x.sits(0, 29), (1 << 29) - 1);
        Check.is("30", x.sits(0, 30), (1 << 30) - 1);
        Check.law(x, "0");
        Check.is("never", x.sits(0, 30), 0);
    }

    static void p19_thisYearFirst() {
        DyeStreets x = withLaw("street 1 1 1 1;person 0 0;", "1-age");
        Check.is("only now", x.sits(0, 30), 1);
        Check.law(x, "age-28");
        Check.is("only the thirtieth", x.sits(0, 30), 1 << 29);
        Check.is("not among 29", x.sits(0, 29), 0);
        Check.law(x, "age-29");
        Check.is("only a thirty-first", x.sits(0, 30), 0);
        Check.law(x, "year-year/3*3");
        Check.is("two of three", x.sits(0, 7), 0b0110110);
    }

    static void p19_beyondYear300AndNothingStaysChanged() {
        DyeStreets x = withLaw("street 9 9 9 0;person 0 60;", "year-310");
        Check.work(x, "again 60[year;year;];again 30[year;];");
        Check.work(x, "again 60[year;year;];again 30[year;];");
        Check.is("from 311 on", x.sits(0, 13), 3 << 11);
        Check.work(x, "dip 0 0;salt 0;");
        Telling.unchanged(x, "sits", () -> x.sits(0, 30));
        Check.law(x, "dark-24");
        Check.is("salted: 27 27 26 25 24", x.sits(0, 30), 0b1111);
    }

    // ---- 20: way

    static void p20_bounds() {
        DyeStreets x = Check.of(PURE);
        Telling.illegalBeyond("way", 0, 999, n -> x.way(n, 0));
        Telling.illegalBeyond("way to", 0, 999, n -> x.way(0, n));
        Check.is("refused", x.status(1), 8);
        Check.illegal("both", () -> x.way(1000, 1000));
        Check.is("refused", x.status(1), 9);
    }

    static void p20_noDipsToItself() {
        DyeStreets x = Check.of(PURE);
        Check.is("0", x.way(0, 0), 0);
        Check.is("999", x.way(999, 999), 0);
        Check.is("537", x.way(537, 537), 0);
        Check.is("without streets", new DyeStreets().way(5, 5), 0);
        Check.is("a vat of nothing", Check.of("street 0 0 0 0;").way(5, 5), 0);
    }

    static void p20_noneIfThereIsNoWay() {
        DyeStreets x = Check.of(PURE);
        Check.is("down", x.way(100, 0), -1);
        Check.is("down by one", x.way(999, 998), -1);
        Check.is("less of a dye", x.way(10, 100), -1);
        Check.is("more of one, less of another", x.way(100, 99), -1);
        Check.is("no streets", new DyeStreets().way(0, 1), -1);
        Check.is("a vat of nothing", Check.of("street 0 0 0 0;").way(0, 1), -1);
        Check.is("past it", Check.of("street 2 0 0 0;").way(0, 300), -1);
        Check.is("too much of another", Check.of("street 1 1 0 0;").way(0, 100), -1);
    }

    static void p20_twentySevenDips() {
        DyeStreets x = Check.of(PURE);
        Check.is("27", x.way(0, 999), 27);
        Check.is("the last one", x.way(998, 999), 1);
        Check.is("1", Check.of("street 9 9 9 0;").way(0, 999), 1);
    }

    static void p20_nineAtMostHelps() {
        DyeStreets x = Check.of("street 5 0 0 0;stock 0 0;");
        Check.is("5 and 4", x.way(0, 900), 2);
        Check.is("not 10", x.way(0, 800), -1);
        Check.is("from 8", x.way(800, 900), 1);
        Check.is("from 8 with what is left over elsewhere", x.way(810, 900), -1);
        DyeStreets y = Check.of("street 5 0 0 0;street 9 9 0 0;");
        Check.is("two at most", y.way(0, 990), 1);
        Check.is("from 500", y.way(500, 990), 1);
    }

    static void p20_theFewest() {
        DyeStreets x = Check.of("street 1 0 0 0;street 4 0 0 0;street 3 0 0 0;");
        Check.is("6 is 3 and 3, not 4 and 1 and 1", x.way(0, 600), 2);
        Check.is("7", x.way(0, 700), 2);
        Check.is("9 is 4 and 4 and 4 cut", x.way(0, 900), 3);
        Check.is("9 from 6", x.way(600, 900), 1);
    }

    // ---- 21: step

    static void p21_bounds() {
        DyeStreets x = Check.of(PURE);
        Telling.illegalBeyond("step", 0, 999, n -> x.step(n, 0, 0));
        Telling.illegalBeyond("step to", 0, 999, n -> x.step(0, n, 0));
        Check.illegal("k below 0", () -> x.step(0, 999, -1));
        Check.illegal("k below 0", () -> x.step(0, 999, Integer.MIN_VALUE));
        Check.illegal("k below 0 of no way", () -> x.step(1, 0, -1));
        Check.is("refused", x.status(1), 11);
    }

    static void p21_noneIfThereAreNotSoMany() {
        DyeStreets x = Check.of(PURE);
        Check.is("the last", x.step(0, 999, 26), 2);
        Check.is("behind the last", x.step(0, 999, 27), -1);
        Check.is("far behind", x.step(0, 999, Integer.MAX_VALUE), -1);
        Check.is("to itself", x.step(5, 5, 0), -1);
        Check.is("no way", x.step(1, 0, 0), -1);
        Check.is("no way, far behind", x.step(1, 0, Integer.MAX_VALUE), -1);
        Check.is("no streets", new DyeStreets().step(0, 1, 0), -1);
    }

    static void p21_theFirstWayStreetByStreet() {
        DyeStreets x = Check.of(PURE);
        for (int k = 0; k < 27; k++) {
            Check.is("step " + k, x.step(0, 999, k), k / 9);
        }
        DyeStreets y = Check.of("street 0 0 0 0;street 3 0 0 0;street 2 0 0 0;street 3 0 0 0;street 1 0 0 0;");
        Check.is("400: 3 and 1 ahead of 2 and 2", y.step(0, 400, 0) * 10 + y.step(0, 400, 1), 14);
        Check.is("400 ends", y.step(0, 400, 2), -1);
        Check.is("300: the first of alike vats", y.step(0, 300, 0), 1);
        DyeStreets z = Check.of("street 1 0 0 0;street 0 9 0 0;street 9 4 0 0;");
        Check.is("the fewest, not the first street", z.step(0, 990, 0), 1);
        Check.is("then another", z.step(0, 990, 1), 2);
        DyeStreets w = Check.of("street 4 0 0 0;street 5 0 0 0;");
        Check.is("900: 4 and 5 ahead of 5 and 4", w.step(0, 900, 0) * 10 + w.step(0, 900, 1), 1);
    }

    // ---- 22: sums

    static void p22_bounds() {
        DyeStreets x = Check.of(PURE);
        Telling.illegalBeyond("sums", 0, 999, n -> x.sums(n, 0));
        Telling.illegalBeyond("sums 0", 0, 1, n -> x.sums(0, n));
    }

    static void p22_whiteIsMadeOfNoDips() {
        for (String city : new String[] {"", "street 0 0 0 0;", PURE, "street 9 9 9 0;"}) {
            DyeStreets x = Check.of(city);
            Check.is("one way", x.sums(0, 0), 1);
            Check.is("no dips", x.sums(0, 1), 0);
        }
    }

    static void p22_itCannotBe() {
        DyeStreets x = Check.of("street 2 2 0 0;street 0 0 0 0;");
        for (int shade : new int[] {100, 200, 20, 330, 221, 999, 1}) {
            Check.is("no ways to " + shade, x.sums(shade, 0), 0);
            Check.is("no dips to " + shade, x.sums(shade, 1), -1);
        }
        Check.is("no streets", new DyeStreets().sums(1, 0), 0);
        Check.is("no streets", new DyeStreets().sums(1, 1), -1);
    }

    static void p22_nothingGoesBeyond9() {
        DyeStreets x = Check.of("street 5 0 0 0;street 0 0 9 0;");
        Check.is("5", x.sums(500, 0), 1);
        Check.is("not 9", x.sums(900, 0), 0);
        Check.is("not 9", x.sums(900, 1), -1);
        Check.is("just 9", x.sums(9, 0), 1);
        Check.is("just 9", x.sums(509, 1), 2);
        Check.is("ten of weld is no indigo", Check.of("street 0 0 1 0;street 0 0 5 0;").sums(10, 0), 0);
        Check.is("ten of indigo is no madder", Check.of("street 0 5 0 0;").sums(100, 0), 0);
    }

    static void p22_vatsOfNothingAreNotUsed() {
        DyeStreets x = Check.of("street 0 0 0 0;street 1 0 0 0;street 0 0 0 0;");
        Check.is("one way", x.sums(300, 0), 1);
        Check.is("three dips", x.sums(300, 1), 3);
    }

    static void p22_orderIsNotAskedEachAsOftenAsOneLikes() {
        DyeStreets x = Check.of("street 3 0 0 0;street 4 0 0 0;street 1 0 0 0;stock 0 0;");
        Check.is("33 411 3111 111111", x.sums(600, 0), 4);
        Check.is("33", x.sums(600, 1), 2);
        Check.is("1 nine times and others", x.sums(900, 0), 7);
        Check.is("333, 441", x.sums(900, 1), 3);
        for (int shade = 0; shade < 1000; shade += 37) {
            Check.is("one by one to " + shade, Check.of(PURE).sums(shade, 0), 1);
            Check.is("dips to " + shade, Check.of(PURE).sums(shade, 1), shade / 100 + shade / 10 % 10 + shade % 10);
        }
        Check.is("nine of one dye", Check.of(PURE).sums(90, 0), 1);
        DyeStreets y = Check.of("street 1 1 1 0;".repeat(6));
        Check.is("nine of six", y.sums(999, 0), 2002);
        Check.is("nine", y.sums(999, 1), 9);
    }

    static void p22_theFewestDipsWhicheverStreetIsToldAhead() {
        for (String city : new String[] {"street 1 0 0 0;street 2 0 0 0;", "street 2 0 0 0;street 1 0 0 0;"}) {
            DyeStreets x = Check.of(city);
            for (int madder = 0; madder < 10; madder++) {
                Check.is(city + " to " + madder, x.sums(madder * 100, 1), (madder + 1) / 2);
                Check.is(city + " ways to " + madder, x.sums(madder * 100, 0), madder / 2 + 1);
            }
        }
        DyeStreets y = Check.of("street 1 0 0 0;street 9 0 0 0;street 4 0 0 0;street 5 0 0 0;");
        Check.is("9", y.sums(900, 1), 1);
        Check.is("8", y.sums(800, 1), 2);
        Check.is("7", y.sums(700, 1), 3);
    }

    // ---- 23: tones

    static void p23_bounds() {
        DyeStreets x = Check.of(PURE);
        Telling.illegalBeyond("tones", 0, 999, n -> x.tones(n));
    }

    static void p23_theShadeItselfToo() {
        Check.is("no streets", new DyeStreets().tones(5), 1);
        Check.is("a vat of nothing", Check.of("street 0 0 0 0;").tones(5), 1);
        Check.is("nothing above 999", Check.of(PURE).tones(999), 1);
        Check.is("two", Check.of(PURE).tones(998), 2);
    }

    static void p23_allThereAre() {
        DyeStreets x = Check.of(PURE + "stock 0 0;stock 1 0;stock 2 0;");
        Check.is("all", x.tones(0), 1000);
        Check.is("from 1", x.tones(1), 900);
        Check.is("from 999", x.tones(999), 1);
        Check.is("0 4 8 9", Check.of("street 4 0 0 0;").tones(0), 4);
        Check.is("8 9", Check.of("street 4 0 0 0;").tones(800), 2);
        Check.is("000 540 980 990", Check.of("street 5 4 0 0;").tones(0), 4);
        Check.is("twice the same vat", Check.of("street 4 0 0 0;street 4 0 0 0;").tones(0), 4);
    }
}
