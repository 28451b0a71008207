/** The boundaries that the document names in the promises 5 to 9 and in the terms of work, steps and a book. */
public final class Bounds05To09Test {
    public static void main(String[] args) throws IllegalAccessException {
        Cases.run(Bounds05To09Test.class, 5, 9);
    }

    /** How many steps were done, and how many refused. */
    private static void works(DyeStreets x, String text, int done, int refused) {
        Check.is("work \"" + text + "\"", Check.work(x, text), done);
        Check.is("refused of \"" + text + "\"", x.told(7), refused);
    }

    private static void shades(DyeStreets x, int... due) {
        for (int p = 0; p < due.length; p++) {
            Check.is("shade of " + p, x.person(p, 2), due[p]);
        }
    }

    private static void stocks(DyeStreets x, int madder, int indigo, int weld) {
        Check.is("madder in stock", x.stock(0), madder);
        Check.is("indigo in stock", x.stock(1), indigo);
        Check.is("weld in stock", x.stock(2), weld);
    }

    // ---- 5: work, its text

    static void p05_oneHundredFiftyBytes() {
        DyeStreets x = new DyeStreets();
        works(x, "year;".repeat(30), 30, 0);
        works(x, " ".repeat(145) + "year;", 1, 0);
        Check.is("years", x.told(2), 31);
        Telling.fault("work", " ".repeat(146) + "year", 1, 150);
        works(x, "again0[];".repeat(16) + "year; ", 1, 0);
        works(x, "again1[again1[again1[again1[again1[again1[rain;];];];];];];".repeat(2), 0, 2);
    }

    static void p05_howManyBytes() {
        Telling.counts("work", 150);
    }

    static void p05_anEmptyTextIsAWorkOfNoSteps() {
        DyeStreets x = new DyeStreets();
        works(x, "", 0, 0);
        works(x, "    ", 0, 0);
        Check.is("two works", x.count(2), 2);
        Check.is("no fault", x.fault(), -1);
    }

    static void p05_personsAndStreetsThatAreThere() {
        DyeStreets x = Check.of(Telling.TOWN);
        works(x, "dip 0 0;dip 3 2;wash 3;salt 3;marry 0 3;", 5, 0);
        Telling.fault("work", "dip 4 0;", 2, 4);
        Telling.fault("work", "dip 0 3;", 2, 6);
        Telling.fault("work", "dip 4 3;", 2, 4);
        Telling.fault("work", "wash 4;", 2, 5);
        Telling.fault("work", "salt 4;", 2, 5);
        Telling.fault("work", "marry 4 0;", 2, 6);
        Telling.fault("work", "marry 0 4;", 2, 8);
        Telling.fault("work", "wash 4294967296;", 2, 5);
        DyeStreets y = new DyeStreets();
        Check.is("nobody is there", Check.work(y, "wash 0;"), -8);
        Check.is("at his number", y.fault(), 5);
        DyeStreets z = Check.of("street 1 1 1 1;");
        Check.is("nobody is there to dip", Check.work(z, "dip 0 0;"), -8);
        Check.is("at his number", z.fault(), 4);
    }

    static void p05_nobodyMarriesHimself() {
        Telling.fault("work", "marry 1 1;", 2, 8);
        Telling.fault("work", "marry 0 0;", 2, 8);
        Telling.fault("work", "marry 3 003;", 2, 8);
        Telling.fault("work", "marry 4 4;", 2, 6);
        Telling.fault("work", "year;marry 1 1", 2, 13);
    }

    static void p05_againsOf0To60() {
        works(new DyeStreets(), "again 60[year;];", 60, 0);
        works(new DyeStreets(), "again 59[year;];", 59, 0);
        works(new DyeStreets(), "again 1[year;];", 1, 0);
        works(new DyeStreets(), "again 0[year;];", 0, 0);
        works(new DyeStreets(), "again 0[year;again 5[year;];];year;", 1, 0);
        works(new DyeStreets(), "again 060[];", 0, 0);
        Telling.fault("work", "again 61[];", 2, 6);
        Telling.fault("work", "again 61", 2, 6);
        Telling.fault("work", "again 1[again 61[];];", 2, 14);
    }

    static void p05_sixAgainsAreOpenAtOneTime() {
        String six = "again 1[".repeat(6);
        works(new DyeStreets(), six + "year;" + "];".repeat(6), 1, 0);
        works(new DyeStreets(), "again 2[".repeat(6) + "year;" + "];".repeat(6), 64, 0);
        works(new DyeStreets(), "again 1[year;];".repeat(7), 7, 0);
        works(new DyeStreets(), "again 1[again 1[again 1[again 1[again 1[again 1[year;];again 2[year;];];];];];];", 3, 0);
        Telling.fault("work", six + "again 1[];" + "];".repeat(6), 3, 48);
        Telling.fault("work", six + "  again", 3, 50);
        Telling.fault("work", six + "again 61[", 3, 48);
        Telling.fault("work", six + "agains 1[", 1, 48);
        Telling.fault("work", six + "year;];again 1[again 1[];];", 3, 63);
    }

    static void p05_aTextThatEndsTooEarly() {
        Telling.cutShort("work", "again 2[dip 0 1;];year;", "|0|18|23|");
        Telling.cutShort("work", "rain;wash 0;salt 0;", "|0|5|12|19|");
        Telling.fault("work", "marry 0", 1, 7);
        Telling.fault("work", "marry 0 1  ", 1, 11);
        Telling.fault("work", "again 1[year;  ", 1, 15);
    }

    static void p05_onlyTheFirstBytesAreRead() {
        DyeStreets x = Check.of(Telling.TOWN);
        Check.feed(x, "year;year;again 99");
        Check.is("10 of 20", x.work(10), 2);
        Check.is("the rest is gone", x.count(1), 0);
        Check.feed(x, "years;");
        Check.is("a word ends with the text", x.work(4), -9);
        Check.is("at the length", x.fault(), 4);
        Check.feed(x, "wash 30;");
        Check.is("a number ends with the text", x.work(6), -9);
        Check.is("at the length", x.fault(), 6);
    }

    static void p05_whatCannotStandThere() {
        Telling.fault("work", "years;", 1, 0);
        Telling.fault("work", "Year;", 1, 0);
        Telling.fault("work", "yearX;", 1, 4);
        Telling.fault("work", "street 1 1 1 1;", 1, 0);
        Telling.fault("work", "year 1;", 1, 5);
        Telling.fault("work", "rain 0;", 1, 5);
        Telling.fault("work", "dip 0;", 1, 5);
        Telling.fault("work", "dip 0 0 0;", 1, 8);
        Telling.fault("work", "wash;", 1, 4);
        Telling.fault("work", "wash 0 0;", 1, 7);
        Telling.fault("work", "dip -1 0;", 1, 4);
        Telling.fault("work", "year;;", 1, 5);
        Telling.fault("work", ";", 1, 0);
        Telling.fault("work", "0;", 1, 0);
        Telling.fault("work", "year;3;", 1, 5);
        Telling.fault("work", "again 1[2;];", 1, 8);
        Telling.fault("work", "];", 1, 0);
        Telling.fault("work", "year;];", 1, 5);
        Telling.fault("work", "again 1[];];", 1, 10);
        Telling.fault("work", "again[];", 1, 5);
        Telling.fault("work", "again 1 year;", 1, 8);
        Telling.fault("work", "again 1(year;);", 1, 7);
        Telling.fault("work", "again 1[year];", 1, 12);
        Telling.fault("work", "again 1[year;]", 1, 14);
        Telling.fault("work", "again 1[year;] year;", 1, 15);
        Telling.fault("work", "again 1[;];", 1, 8);
    }

    static void p05_blanksAheadOfAllAndAtTheEnd() {
        DyeStreets x = Check.of(Telling.TOWN);
        works(x, "  again  2  [  dip  0  0  ;  ]  ;  marry  0  3  ;  ", 3, 0);
        works(x, "dip3 2;wash0;again2[year;];", 4, 0);
    }

    static void p05_aFaultIsAheadOfAllSteps() {
        DyeStreets x = Check.of(Telling.TOWN);
        Check.is("years and a fault", Check.work(x, "year;year;year;wash 9;"), -8);
        Check.is("none is done", x.told(2), 0);
        Check.is("no work", x.count(2), 0);
        Check.is("nothing to undo", x.undo(), -1);
    }

    // ---- 5: work, its steps

    static void p05_aDipLeaves9AtMostAndTakesAllThatTheVatGives() {
        DyeStreets x = Check.of("street 5 4 3 0;person 0 1;stock 0 10;");
        works(x, "dip 0 0;", 1, 0);
        shades(x, 543);
        works(x, "dip 0 0;", 1, 0);
        shades(x, 986);
        stocks(x, 0, 42, 44);
    }

    static void p05_aDipIsRefusedIfThereIsLessOfOneInStock() {
        for (int dye = 0; dye < 3; dye++) {
            DyeStreets x = Check.of("street 2 2 2 0;person 0 1;stock " + dye + " 1;river 1;");
            String before = Check.all(x);
            works(x, "dip 0 0;", 0, 1);
            Check.is("undo", x.undo(), 0);
            Check.same("changes nothing", Check.all(x), before);
            works(x, "year;dip 0 0;", 2, 0);
            Check.is("just as much is enough", x.stock(dye), 0);
            shades(x, 222);
        }
    }

    static void p05_aDipAsksNoStockOfWhatItsVatDoesNotGive() {
        DyeStreets x = Check.of("street 0 3 0 0;person 0 1;stock 0 0;stock 2 0;");
        works(x, "dip 0 0;", 1, 0);
        shades(x, 30);
        stocks(x, 0, 47, 0);
    }

    static void p05_aDipIsRefusedIfTheShadeStays() {
        DyeStreets x = Check.of("street 0 0 0 0;street 9 0 0 0;street 3 1 0 0;person 0 1;");
        works(x, "dip 0 0;", 0, 1);
        stocks(x, 50, 50, 50);
        Check.is("never dipped", x.person(0, 4), 0);
        works(x, "dip 0 1;dip 0 1;", 1, 1);
        stocks(x, 41, 50, 50);
        Check.is("dipped once", x.person(0, 4), 1);
        works(x, "dip 0 2;", 1, 0);
        shades(x, 910);
        stocks(x, 38, 49, 50);
        Check.is("dipped twice", x.person(0, 4), 2);
    }

    static void p05_aWashTakes1OfEachDye0AtLeast() {
        DyeStreets x = Check.of("street 3 2 1 0;person 0 1;");
        works(x, "dip 0 0;wash 0;", 2, 0);
        shades(x, 210);
        works(x, "wash 0;", 1, 0);
        shades(x, 100);
        works(x, "wash 0;", 1, 0);
        shades(x, 0);
        stocks(x, 47, 48, 49);
        Check.is("dips stay", x.person(0, 4), 1);
    }

    static void p05_aWashIsRefusedIfOneIsWhite() {
        DyeStreets x = Check.of("street 0 0 1 0;person 0 1;");
        works(x, "salt 0;wash 0;", 1, 1);
        Check.is("a white one stays salted", x.person(0, 6), 1);
        works(x, "dip 0 0;wash 0;", 2, 0);
        Check.is("salted no more", x.person(0, 6), 0);
        works(x, "wash 0;", 0, 1);
    }

    static void p05_saltIsRefusedIfOneIsSalted() {
        DyeStreets x = Check.of(Telling.TOWN);
        works(x, "salt 1;salt 1;", 1, 1);
        Check.is("salted", x.person(1, 6), 1);
        Check.is("another is not", x.person(0, 6), 0);
        works(x, "year;salt 1;", 2, 0);
    }

    static void p05_rainIsRefusedIfFewerThanTwoAreNotSalted() {
        DyeStreets x = Check.of("street 3 0 0 0;person 0 1;person 0 1;person 0 1;");
        works(x, "dip 0 0;salt 2;rain;", 3, 0);
        shades(x, 100, 100, 0);
        works(x, "dip 0 0;salt 1;rain;", 2, 1);
        shades(x, 400, 100, 0);
        works(x, "salt 0;rain;", 1, 1);
        shades(x, 400, 100, 0);
        works(Check.of("street 3 0 0 0;person 0 1;"), "dip 0 0;rain;", 1, 1);
        works(new DyeStreets(), "rain;", 0, 1);
    }

    static void p05_rainLeavesTheMeanCut() {
        DyeStreets x = Check.of("street 1 2 3 0;street 4 9 0 0;person 0 1;person 0 1;person 0 1;");
        works(x, "dip 0 0;dip 1 1;dip 2 1;rain;", 4, 0);
        shades(x, 361, 361, 361);
        DyeStreets y = Check.of("street 7 7 7 0;" + "person 0 1;".repeat(8));
        works(y, "dip 0 0;rain;", 2, 0);
        Check.is("7 by 8", y.person(7, 2), 0);
        works(y, "dip 0 0;dip 1 0;salt 2;salt 3;rain;", 5, 0);
        shades(y, 222, 222, 0, 0, 222, 222, 222, 222);
        DyeStreets z = Check.of("street 4 2 6 0;person 0 1;person 0 1;person 0 1;person 0 1;");
        works(z, "dip 0 0;salt 2;salt 3;dip 3 0;rain;", 5, 0);
        shades(z, 213, 213, 0, 426);
    }

    static void p05_rainOnWhiteOnesIsDone() {
        DyeStreets x = Check.of(Telling.TOWN);
        works(x, "rain;rain;", 2, 0);
    }

    static void p05_marryIsRefusedIfOneIsMarried() {
        DyeStreets x = Check.of(Telling.TOWN);
        works(x, "marry 0 1;marry 0 2;marry 2 0;marry 1 2;marry 2 1;marry 0 1;marry 1 0;", 1, 6);
        Check.is("0", x.person(0, 5), 1);
        Check.is("1", x.person(1, 5), 0);
        Check.is("2", x.person(2, 5), -1);
        works(x, "marry 3 2;", 1, 0);
        Check.is("2", x.person(2, 5), 3);
        Check.is("3", x.person(3, 5), 2);
    }

    static void p05_marryIsRefusedAboveDistance6() {
        DyeStreets x = Check.of("street 4 0 0 0;street 0 2 0 0;street 0 0 1 0;person 0 1;person 0 1;person 1 1;person 1 1;");
        works(x, "dip 0 0;dip 0 1;dip 0 2;marry 0 1;marry 1 0;", 3, 2);
        Check.is("7 is too far", x.told(4), 0);
        works(x, "dip 1 2;marry 1 0;", 2, 0);
        Check.is("6 is not", x.told(4), 2);
        works(x, "marry 2 3;", 1, 0);
        Check.is("of one street", x.told(4), 4);
    }

    static void p05_aYearIsRefusedInYear300() {
        DyeStreets x = Check.of("street 9 9 9 0;person 0 60;river 0;");
        works(x, "again 50[year;year;year;];", 150, 0);
        works(x, "again 49[year;year;year;];year;year;", 149, 0);
        Check.is("299", x.told(2), 299);
        works(x, "dip 0 0;salt 0;year;", 3, 0);
        Check.is("300", x.told(2), 300);
        works(x, "salt 0;", 1, 0);
        String before = Check.all(x);
        works(x, "year;", 0, 1);
        works(x, "year;year;", 0, 2);
        Check.is("undo", x.undo() + x.undo(), 9);
        Check.same("changes nothing", Check.all(x), before);
        Check.is("his age", x.person(0, 1), 360);
        works(x, "wash 0;", 1, 0);
    }

    static void p05_aYearFadesTheDyeLeftOfTheYearBy3() {
        DyeStreets x = Check.of("street 2 2 2 0;person 0 1;person 0 1;");
        works(x, "dip 0 0;dip 1 0;year;", 3, 0);
        shades(x, 122, 122);
        works(x, "year;", 1, 0);
        shades(x, 112, 112);
        works(x, "year;", 1, 0);
        shades(x, 111, 111);
        works(x, "salt 1;year;", 2, 0);
        shades(x, 11, 111);
        works(x, "year;year;", 2, 0);
        shades(x, 0, 100);
        works(x, "year;", 1, 0);
        shades(x, 0, 0);
        works(x, "year;year;year;", 3, 0);
        shades(x, 0, 0);
    }

    static void p05_aYearFadesNothingIfHeHasNoneOfTheDye() {
        DyeStreets x = Check.of("street 0 3 0 0;person 0 1;");
        works(x, "dip 0 0;year;", 2, 0);
        shades(x, 30);
        works(x, "year;", 1, 0);
        shades(x, 20);
        works(x, "year;year;", 2, 0);
        shades(x, 20);
        works(x, "year;", 1, 0);
        shades(x, 10);
    }

    static void p05_aYearFillsTheStockTo200AtMost() {
        DyeStreets x = Check.of("stock 0 179;stock 1 180;stock 2 181;river 20;");
        works(x, "year;", 1, 0);
        stocks(x, 199, 200, 200);
        works(x, "year;", 1, 0);
        stocks(x, 200, 200, 200);
        DyeStreets y = Check.of("stock 0 0;river 0;");
        works(y, "year;", 1, 0);
        stocks(y, 0, 50, 50);
    }

    static void p05_aYearAgesAllAndEndsAllSalt() {
        DyeStreets x = Check.of("street 0 0 0 0;person 0 60;person 0 0;");
        works(x, "salt 0;salt 1;year;", 3, 0);
        Check.is("salted", x.told(5), 0);
        Check.is("ages", x.person(0, 1) * 10 + x.person(1, 1), 611);
    }

    // ---- 5: work, how much of it

    static void p05_twoHundredStepsAreBegunAtMost() {
        works(new DyeStreets(), "again 60[year;year;year;];again 17[year;];", 197, 0);
        works(new DyeStreets(), "again 60[year;year;year;];again 18[year;];", 198, 0);
        works(new DyeStreets(), "again 60[year;year;year;];again 19[year;];", 198, 0);
        works(new DyeStreets(), "again 60[year;year;year;];again 18[year;];year;", 198, 0);
        works(new DyeStreets(), "again 60[year;year;year;];again 17[year;];year;", 198, 0);
        works(new DyeStreets(), "again 60[year;year;year;];again 17[year;];again 2[year;];", 197, 0);
        works(new DyeStreets(), "again 60[year;year;year;];again 16[year;];again 2[year;];", 197, 0);
    }

    static void p05_whatWasLeftOutOrFaultyLeavesNothingBehind() {
        DyeStreets x = new DyeStreets();
        Check.is("left out in three agains", Check.work(x, "again 60[again 60[again 60[year;];];];"), 194);
        works(x, "year;", 1, 0);
        works(x, "again 2[year;];rain;", 2, 1);
        Check.is("a fault in three agains", Check.work(x, "again 60[again 60[again 60[year;];];?"), -9);
        works(x, "year;", 1, 0);
        works(x, "again 2[again 2[year;];];", 4, 0);
        Check.is("years", x.told(2), 202);
    }

    static void p05_anAgainCountsEachTimeItIsComeTo() {
        works(new DyeStreets(), "again 60[again 3[year;];];year;", 149, 0);
        works(new DyeStreets(), "again 60[again 1[year;];];", 60, 0);
        works(new DyeStreets(), "again 60[again 0[];again 0[];];year;", 1, 0);
        works(new DyeStreets(), "again 60[again 0[];again 60[];year;];again 17[year;];", 77, 0);
        works(new DyeStreets(), "again 60[again 0[];again 60[];year;];again 18[year;];year;", 78, 0);
        works(new DyeStreets(), "again 60[again 60[];];again 60[again 60[];];again 60[year;];", 60, 0);
    }

    static void p05_refusedStepsCountAmongTheTwoHundred() {
        works(new DyeStreets(), "again 60[rain;rain;rain;];again 18[year;];year;", 18, 180);
        works(new DyeStreets(), "again 60[rain;rain;rain;];again 60[rain;];", 0, 198);
        works(new DyeStreets(), "year;again 60[rain;rain;rain;];again 17[rain;];year;", 1, 197);
    }

    static void p05_againsAndRefusedStepsAreNotAmongTheDoneOnes() {
        DyeStreets x = Check.of(Telling.TOWN);
        works(x, "again 3[wash 0;again 2[year;];];salt 1;salt 1;", 7, 4);
    }

    static void p05_sixteenWorksThatWereNotUndone() {
        DyeStreets x = Check.of(Telling.TOWN);
        for (int k = 1; k <= 16; k++) {
            Check.is("work " + k, Check.work(x, "year;wash 0;"), 1);
            Check.is("works", x.count(2), k);
        }
        String before = Check.all(x);
        Check.is("a seventeenth", Check.work(x, "year;"), -20);
        Check.is("a seventeenth of nothing", Check.work(x, ""), -20);
        Check.same("nothing is done, refused steps stay, the tape is empty", Check.all(x), before);
        Check.is("undo", x.undo(), 15);
        Check.is("there is room again", Check.work(x, "year;"), 1);
        Check.is("but for one", Check.work(x, "year;"), -20);
        Check.is("a city", Check.city(x, Telling.TOWN), 4);
        Check.is("there is room again", Check.work(x, "year;"), 1);
        Check.is("an image of one work", x.image(), 1);
        for (int k = 2; k <= 16; k++) {
            Check.is("work", Check.work(x, ""), 0);
        }
        Check.is("a seventeenth", Check.work(x, ""), -20);
        Check.is("restore", x.restore(), 0);
        Check.is("there is room again", Check.work(x, "year;"), 1);
        Check.is("works", x.count(2), 2);
    }

    static void p05_theSeventeenthIsBehindTheExceptionAndAheadOfTheFault() {
        DyeStreets x = new DyeStreets();
        for (int k = 0; k < 16; k++) {
            Check.is("work", x.work(0), 0);
        }
        Check.is("a law with a fault", Check.law(x, "1+"), -9);
        Check.is("its place", x.fault(), 2);
        Check.feed(x, "rubbish");
        Check.illegal("behind the exception", () -> x.work(21));
        Check.illegal("behind the exception", () -> x.work(-1));
        Check.is("the tape stays", x.count(1), 20);
        Check.is("the fault stays", x.fault(), 2);
        Check.is("ahead of the fault", x.work(7), -20);
        Check.is("there is no fault", x.fault(), -1);
        Check.is("the tape is empty", x.count(1), 0);
        Check.feed(x, " ".repeat(160));
        Check.illegal("151 bytes", () -> x.work(151));
        Check.is("150 bytes", x.work(150), -20);
        Check.is("other texts are read", Check.law(x, "1"), 1);
    }

    // ---- 6: book

    static void p06_sixtyBytes() {
        DyeStreets x = Check.of(Telling.TOWN);
        Check.is("60 bytes", Check.book(x, " ".repeat(48) + "0 1;1 2;2 9;"), 3);
        Check.is("60 bytes", Check.book(x, "0" + "0".repeat(56) + " 1;"), 1);
        Telling.fault("book", " ".repeat(59) + "x", 1, 59);
    }

    static void p06_howManyBytes() {
        Telling.counts("book", 60);
    }

    static void p06_anEmptyTextIsABookOfNoLines() {
        DyeStreets x = Telling.lived();
        Check.is("a book", x.told(6), 1);
        Check.is("an empty one", Check.book(x, ""), 0);
        Check.is("no lines", x.told(6), 0);
        Check.is("all fit", x.fits(0), 6);
        Check.is("blanks", Check.book(x, "   "), 0);
        Check.is("no fault", x.fault(), -1);
    }

    static void p06_dyesAndValues() {
        DyeStreets x = Check.of(Telling.TOWN);
        Check.is("0 and 9", Check.book(x, "0 0;1 9;2 0;"), 3);
        Telling.fault("book", "3 1;", 2, 0);
        Telling.fault("book", "0 10;", 2, 2);
        Telling.fault("book", "3 10;", 2, 0);
        Telling.fault("book", "4294967296 1;", 2, 0);
    }

    static void p06_threeLinesAndNoDyeTwice() {
        DyeStreets x = Check.of(Telling.TOWN);
        Check.is("three", Check.book(x, "2 1;0 1;1 1;"), 3);
        Check.is("lines", x.told(6), 3);
        Check.is("two", Check.book(x, "2 1;0 1;"), 2);
        Check.is("lines", x.told(6), 2);
        Telling.fault("book", "0 1;0 1;", 2, 4);
        Telling.fault("book", "0 1;1 1; 0 2;", 2, 9);
        Telling.fault("book", "1 1;1 10;", 2, 4);
        Telling.fault("book", "2 1;2", 2, 4);
    }

    /** A D behind three lines is a D twice or none such: of the faults at one place the least. */
    static void p06_aFourthLineIsTheLeastOfItsFaults() {
        Telling.fault("book", "0 1;1 1;2 1;0 1;", 2, 12);
        Telling.fault("book", "0 1;1 1;2 1;  2 1;", 2, 14);
        Telling.fault("book", "0 1;1 1;2 1;3 1;", 2, 12);
        Telling.fault("book", "0 1;1 1;2 1;x 1;", 1, 12);
        Telling.fault("book", "0 1;1 1;2 1;;", 1, 12);
    }

    static void p06_aTextThatEndsTooEarly() {
        Telling.cutShort("book", "0 1;2 3;", "|0|4|8|");
        Telling.cutShort("book", "  0   09  ;", "|0|1|2|11|");
        Telling.fault("book", "0 1  ", 1, 5);
    }

    static void p06_whatCannotStandThere() {
        Telling.fault("book", "a 1;", 1, 0);
        Telling.fault("book", "0;", 1, 1);
        Telling.fault("book", "01;", 1, 2);
        Telling.fault("book", "0 1,", 1, 3);
        Telling.fault("book", "0 1 2;", 1, 4);
        Telling.fault("book", ";", 1, 0);
        Telling.fault("book", "0 1;;", 1, 4);
        Telling.fault("book", "0 -1;", 1, 2);
    }

    static void p06_aBookTakesTheOldOnesPlace() {
        DyeStreets x = Check.of(Telling.TOWN);
        Check.work(x, "dip 0 0;");
        Check.is("a book", Check.book(x, "0 3;1 0;"), 2);
        Check.is("three fit", x.fits(0), 3);
        Check.is("another book", Check.book(x, " 2 1 ; "), 1);
        Check.is("none fits", x.fits(0), 0);
        Check.is("madder is in no line now", x.look(0), 0);
    }

    // ---- 7: fault

    static void p07_noneWithout() {
        DyeStreets x = new DyeStreets();
        Check.is("no text", x.fault(), -1);
        for (String kind : new String[] {"city", "work", "book"}) {
            Check.is("a law with a fault", Check.law(x, "1+"), -9);
            Check.is("its place", x.fault(), 2);
            Check.is(kind, Telling.tell(x, kind, ""), 0);
            Check.is("none without", x.fault(), -1);
        }
        Check.is("a work with a fault", Check.work(x, "?"), -9);
        Check.is("its place", x.fault(), 0);
        Check.is("law", Check.law(x, "1"), 1);
        Check.is("none without", x.fault(), -1);
    }

    static void p07_ofTheLatestText() {
        DyeStreets x = new DyeStreets();
        Check.is("a city", Check.city(x, "river 5;river"), -9);
        Check.is("13", x.fault(), 13);
        Check.is("asked once more", x.fault(), 13);
        Check.is("a book", Check.book(x, "0 1"), -9);
        Check.is("3", x.fault(), 3);
        Check.is("a law", Check.law(x, "12+"), -9);
        Check.is("3", x.fault(), 3);
        Check.is("a work", Check.work(x, "yeer;"), -9);
        Check.is("0", x.fault(), 0);
    }

    static void p07_onlyTextsChangeIt() {
        DyeStreets x = Telling.lived();
        Check.is("a book", Check.book(x, "0 1"), -9);
        Check.feed(x, "            ");
        Check.illegal("a text that is not read", () -> x.law(151));
        Check.illegal("a text that is not read", () -> x.city(21));
        Check.is("image", x.image(), 2);
        Check.is("restore", x.restore(), 1);
        Check.is("undo", x.undo(), 1);
        Check.missing("person 9", () -> x.person(9, 9));
        Check.is("its place", x.fault(), 3);
    }

    // ---- 8: undo

    static void p08_noneIsThere() {
        DyeStreets x = Check.of(Telling.TOWN);
        String before = Check.all(x);
        Check.is("none", x.undo(), -1);
        Check.is("none", x.undo(), -1);
        Check.same("nothing is done", Check.all(x), before);
        Check.is("a work", Check.work(x, "year;"), 1);
        Check.is("one", x.undo(), 0);
        Check.is("none", x.undo(), -1);
    }

    static void p08_worksOfNoStepsOrOfRefusedOnesToo() {
        DyeStreets x = Check.of(Telling.TOWN);
        works(x, "dip 0 0;", 1, 0);
        works(x, "", 0, 0);
        works(x, "wash 1;", 0, 1);
        works(x, "again 0[year;];", 0, 0);
        Check.is("four works", x.count(2), 4);
        Check.is("undo", x.undo(), 3);
        Check.is("undo", x.undo(), 2);
        Check.is("undo", x.undo(), 1);
        shades(x, 300);
        Check.is("undo", x.undo(), 0);
        shades(x, 0);
    }

    static void p08_textsWithFaultsAreNoWorks() {
        DyeStreets x = Check.of(Telling.TOWN);
        works(x, "dip 0 0;", 1, 0);
        Check.is("a fault", Check.work(x, "dip 0 0"), -9);
        Check.is("a fault", Check.work(x, "dip 0 9;"), -8);
        Check.feed(x, "year;");
        Check.illegal("refused", () -> x.work(21));
        Check.is("undo", x.undo(), 0);
        shades(x, 0);
        Check.is("the tape stays", x.count(1), 20);
    }

    static void p08_sixteenAreUndone() {
        DyeStreets x = Check.of(Telling.TOWN);
        String[] before = new String[16];
        for (int k = 0; k < 16; k++) {
            before[k] = x.person(0, 2) + " " + x.person(k % 4, 6) + " " + x.stock(0) + " " + x.told(2);
            Check.is("work", Check.work(x, "salt " + k % 4 + ";dip 0 " + k % 3 + ";year;") > 0, true);
        }
        for (int k = 15; k >= 0; k--) {
            Check.is("undo", x.undo(), k);
            Check.same("as ahead of it", x.person(0, 2) + " " + x.person(k % 4, 6) + " " + x.stock(0) + " " + x.told(2),
                    before[k]);
        }
        Check.is("none", x.undo(), -1);
    }

    static void p08_allThatWorkChangesComesBack() {
        DyeStreets x = Telling.lived();
        works(x, "", 0, 0);
        String before = Check.all(x);
        works(x, "dip 0 1;dip 3 0;salt 0;wash 1;dip 1 0;marry 1 0;rain;year;salt 3;", 9, 0);
        Check.is("undo", x.undo(), 3);
        Check.same("all", Check.all(x), before);
    }

    static void p08_lawAndBookStay() {
        DyeStreets x = Check.of(Telling.TOWN);
        works(x, "year;", 1, 0);
        Check.law(x, "1");
        Check.book(x, "0 1;1 1;");
        Check.is("undo", x.undo(), 0);
        Check.is("law", x.told(3), 4);
        Check.is("book", x.told(6), 2);
    }

    // ---- 9: told

    static void p09_anotherWhat() {
        DyeStreets x = Telling.lived();
        for (int what : new int[] {-1, 10, Integer.MIN_VALUE, Integer.MAX_VALUE}) {
            Check.illegal("told " + what, () -> x.told(what));
        }
        Check.is("status", x.status(1), 4);
    }

    static void p09_oneOfEach() {
        DyeStreets x = Check.of(Telling.TOWN);
        Check.work(x, "dip 0 0;dip 1 1;dip 2 2;salt 1;salt 3;marry 3 0;wash 3;year;salt 3;dip 0 0;");
        Check.book(x, "0 1;2 2;");
        Check.law(x, "madder-1");
        int[] due = {3, 4, 1, 1, 2, 1, 2, 1, 4, 2};
        for (int what = 0; what < 10; what++) {
            Check.is("told " + what, x.told(what), due[what]);
        }
    }

    static void p09_noneAndAllAreThere() {
        DyeStreets x = Check.of("street 3 0 0 0;street 0 0 0 0;" + "person 0 1;person 1 1;".repeat(4));
        Check.is("nobody sits", x.told(3), 0);
        Check.law(x, "1");
        Check.is("all sit", x.told(3), 8);
        works(x, "salt 0;salt 1;salt 2;salt 3;salt 4;salt 5;salt 6;salt 7;", 8, 0);
        works(x, "marry 0 7;marry 6 1;marry 2 5;marry 4 3;", 4, 0);
        Check.is("all are salted", x.told(5), 8);
        Check.is("all are married", x.told(4), 8);
        Check.is("all are of one shade", x.told(8), 1);
        works(x, "dip 7 0;dip 3 0;", 2, 0);
        Check.is("two shades", x.told(8), 2);
        works(x, "dip 3 0;dip 3 0;dip 0 0;dip 0 0;dip 1 0;", 5, 0);
        Check.is("four shades", x.told(8), 4);
        DyeStreets y = Check.of("street 0 0 1 0;" + "person 0 1;".repeat(8));
        works(y, "again 2[dip 4 0;dip 5 0;again 2[dip 6 0;dip 7 0;];];dip 5 0;dip 7 0;dip 1 0;dip 3 0;dip 3 0;dip 3 0;", 18, 0);
        shades(y, 0, 1, 0, 3, 2, 3, 4, 5);
        Check.is("six of eight", y.told(8), 6);
        works(y, "again 6[dip 2 0;];again 6[dip 5 0;dip 5 0;];", 12, 6);
        Check.is("eight", y.told(8), 8);
    }

    static void p09_refusedStepsAre0AheadOfAnyWork() {
        DyeStreets x = new DyeStreets();
        Check.is("a new object", x.told(7), 0);
        Check.city(x, Telling.TOWN);
        Check.law(x, "1");
        Check.work(x, "wash 0");
        Check.is("a fault is no work", x.told(7), 0);
    }

    static void p09_refusedStepsAreOfTheLatestWork() {
        DyeStreets x = Check.of(Telling.TOWN);
        works(x, "wash 0;wash 1;wash 2;", 0, 3);
        works(x, "wash 0;", 0, 1);
        works(x, "year;", 1, 0);
        works(x, "wash 0;wash 1;", 0, 2);
        works(x, "", 0, 0);
    }

    static void p09_refusedStepsStayBehindWhatIsNoWork() {
        DyeStreets x = Check.of(Telling.TOWN);
        works(x, "wash 0;wash 1;", 0, 2);
        Check.is("a city with a fault", Check.city(x, "river"), -9);
        Check.is("behind a city with a fault", x.told(7), 2);
        Check.is("a work with a fault", Check.work(x, "wash 9;"), -8);
        Check.is("behind a work with a fault", x.told(7), 2);
        Check.illegal("a work of 1", () -> x.work(1));
        Check.illegal("a city of 1", () -> x.city(1));
        Check.is("behind exceptions", x.told(7), 2);
        Check.law(x, "1");
        Check.book(x, "0 1;");
        x.image();
        Check.is("behind a law, a book, an image", x.told(7), 2);
    }

    static void p09_refusedStepsAre0BehindACityAnUndoARestore() {
        DyeStreets x = Check.of(Telling.TOWN);
        works(x, "wash 0;wash 1;", 0, 2);
        Check.is("a city", Check.city(x, Telling.TOWN), 4);
        Check.is("behind a city", x.told(7), 0);
        works(x, "wash 0;", 0, 1);
        works(x, "wash 0;wash 1;", 0, 2);
        Check.is("undo", x.undo(), 1);
        Check.is("behind undo, though the work ahead had one refused", x.told(7), 0);
        works(x, "wash 0;wash 1;", 0, 2);
        Check.is("image", x.image(), 1);
        Check.is("restore", x.restore(), 0);
        Check.is("behind restore, though the image had two refused", x.told(7), 0);
    }
}
