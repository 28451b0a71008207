/** Of each promise: ordinary inputs, with answers worked out by hand; the Bounds tests have the edges. */
public final class PromisesTest {
    private static final String TOWN = Telling.TOWN;

    public static void main(String[] args) throws IllegalAccessException {
        Cases.run(PromisesTest.class, 1, 39);
    }

    // ---- 1 to 3

    static void p01_newObject() {
        DyeStreets x = new DyeStreets();
        Check.is("NONE", DyeStreets.NONE, -1);
        for (int what = 0; what <= 8; what++) {
            Check.is("new: told " + what, x.told(what), 0);
        }
        Check.is("new: told 9", x.told(9), 5);
        for (int dye = 0; dye < 3; dye++) {
            Check.is("new: stock " + dye, x.stock(dye), 50);
        }
        Check.is("new: fault", x.fault(), -1);
        Check.is("new: no street", x.seems(0), -1);
        Check.is("new: law is dark - 9", x.would(333, 0, 0, 0, 0, 0) ? 1 : 0, 0);
        Check.is("new: law is dark - 9", x.would(334, 0, 0, 0, 0, 0) ? 1 : 0, 1);
        Check.is("new: empty work", x.work(0), 0);
        Check.is("new: work counted", x.count(2), 1);
    }

    static void p02_feeding() {
        DyeStreets x = new DyeStreets();
        for (int k = 1; k <= 30; k++) {
            Check.is("feed", x.feed(0, 0, 0, 0, 0), 20 * k);
        }
        Check.is("feed, full", x.feed(1, 2, 3, 4, 5), -1);
        Check.is("feed, full: tape", x.count(1), 600);
        Check.is("city of byte 0", x.city(600), -9);
        Check.is("tape is empty", x.count(1), 0);
        Check.is("feed again", x.feed(0x72697665, 0x72203133, 0x3b707269, 0x76657220, 0x37FFFFFF), 20);
        Check.is("highest byte first", x.city(9), 0);
        Check.is("river by bytes", x.told(9), 13);
        x.feed(0x72697665, 0x72203133, 0x3b726976, 0x65722020, 0x373bFFFF);
        Check.is("bytes above 127", x.city(20), -9);
        Check.is("place of byte 255", x.fault(), 18);
        x.feed(0x20202020, 0x20202020, 0x20202020, 0x20202020, 0x20206469);
        x.feed(0x70203020, 0x303b0000, 0, 0, 0);
        Check.is("a text over two feeds", x.work(26), -8);
        Check.is("a text over two feeds: place", x.fault(), 22);
    }

    static void p03_cityTexts() {
        Check.is("city", Check.city(new DyeStreets(), TOWN), 4);
        Check.is("no blanks", Check.city(new DyeStreets(), "street1 2 3 4;person0 60;stock2 200;river20;"), 1);
        Check.is("blanks all about",
                Check.city(new DyeStreets(), "   street   9  9  9  9  ;  person  0  0  ;  "), 1);
        Check.is("only blanks", Check.city(new DyeStreets(), "     "), 0);
        Check.is("zeros ahead", Check.city(new DyeStreets(), "street 0009 00 01 0;person 000 0060;"), 1);
        DyeStreets x = Check.of("river 3;stock 0 7;river 0;stock 0 8;stock 2 0;");
        Check.is("the last river counts", x.told(9), 0);
        Check.is("the last stock counts", x.stock(0), 8);
        Check.is("stock without", x.stock(1), 50);
        Check.is("stock 0", x.stock(2), 0);
        Check.is("60 clauses", Check.city(new DyeStreets(), "river 5;".repeat(60)), 0);
        String all = "street 1 1 1 1;".repeat(6) + "person 5 1;".repeat(8);
        Check.is("6 streets, 8 people", Check.city(new DyeStreets(), all), 8);
        DyeStreets y = new DyeStreets();
        Check.feed(y, TOWN);
        Check.is("the tape stays", y.count(1), 120);
        Check.is("city behind wrong ones", y.city(TOWN.length()), 4);
        DyeStreets z = new DyeStreets();
        Check.feed(z, "river 7;rubbish");
        Check.is("first n bytes only", z.city(8), 0);
        Check.is("first n bytes only: river", z.told(9), 7);
        Check.is("the rest is gone", z.count(1), 0);
    }

    static void p03_cityStarts() {
        DyeStreets x = Check.of(TOWN);
        Check.law(x, "1");
        Check.book(x, "0 1;");
        Check.work(x, "dip 0 0;wash 1;salt 2;marry 0 1;year;");
        x.image();
        Check.is("told 3 ahead", x.told(3), 4);
        Check.is("city once more", Check.city(x, TOWN), 4);
        Check.is("law is gone", x.told(3), 0);
        Check.is("book is gone", x.told(6), 0);
        Check.is("book is gone: all fit", x.fits(0), 6);
        Check.is("images are gone", x.count(0), 0);
        Check.is("works are gone", x.count(2), 0);
        Check.is("nothing to undo", x.undo(), -1);
        Check.is("nothing to restore", x.restore(), -1);
        Check.is("year 0", x.told(2), 0);
        Check.is("refused 0", x.told(7), 0);
        Check.is("white", x.told(8), 1);
        Check.is("nobody salted", x.told(5), 0);
        Check.is("nobody married", x.told(4), 0);
        Check.is("no dips", x.person(0, 4), 0);
        Check.is("first age", x.person(0, 1), 10);
        Check.is("first stock", x.stock(1), 9);
        Check.is("status stays", x.status(1), 0);
    }

    // ---- 4

    /** What is joined behind by - and + joins with all that the law says, so it needs no brackets. */
    private static void lawWorth(String law, int worth) {
        DyeStreets x = Check.of(TOWN);
        Check.is("law: " + law, Check.law(x, law), 1);
        boolean above = x.would(123, 40, 5, 6, 7, 1);
        Check.is("above 0: " + law, above ? 1 : 0, worth > 0 ? 1 : 0);
        Check.law(x, law + "-" + worth);
        Check.is("not above " + worth + ": " + law, x.would(123, 40, 5, 6, 7, 1) ? 1 : 0, 0);
        Check.law(x, law + "-" + worth + "+1");
        Check.is("at least " + worth + ": " + law, x.would(123, 40, 5, 6, 7, 1) ? 1 : 0, 1);
    }

    static void p04_lawTexts() {
        lawWorth("7", 7);
        lawWorth("999", 999);
        lawWorth("000999", 999);
        lawWorth("0", 0);
        lawWorth("2+3*4", 14);
        lawWorth("2*3+4", 10);
        lawWorth("9-3-2", 4);
        lawWorth("9-(3-2)", 8);
        lawWorth("100/7/2", 7);
        lawWorth("100/(7/2)", 33);
        lawWorth("100*7/2", 350);
        lawWorth("7/2*100", 300);
        lawWorth("7/0", 0);
        lawWorth("7/0+3", 3);
        lawWorth("0-7/2+5", 2);
        lawWorth("(0-7)/2+5", 2);
        lawWorth("least[3,4]", 3);
        lawWorth("least[4,3]", 3);
        lawWorth("most[3,4]", 4);
        lawWorth("most[4,3]", 4);
        lawWorth("most[least[1,2],0-5]", 1);
        lawWorth(" most [ 1 + 1 , least [ 9 , 8 ] ] * ( 2 ) ", 16);
        lawWorth("((((((5))))))", 5);
        lawWorth("(most[(least[(most[5,4]),7]),1])", 5);
        lawWorth("(((1)))+(((2)))+(((3)))+(((4)))", 10);
        lawWorth("999*999*999/999/999", 999);
    }

    static void p04_lawFacts() {
        lawWorth("madder", 1);
        lawWorth("indigo", 2);
        lawWorth("weld", 3);
        lawWorth("dark", 6);
        lawWorth("age", 40);
        lawWorth("rank", 5);
        lawWorth("dips", 6);
        lawWorth("year", 7);
        lawWorth("birth", 1);
        DyeStreets x = Check.of(TOWN);
        Check.work(x, "dip 0 1;dip 1 1;year;year;");
        Check.law(x, "rank-6");
        Check.is("rank by what one seems of", x.sits(0, 1) * 10 + x.sits(1, 1), 11);
        Check.is("rank of a white one", x.sits(3, 1), 0);
        Check.law(x, "birth-1");
        Check.is("birth is 1", x.told(3), 0);
        Check.law(x, "birth");
        Check.is("birth: of another street", x.person(0, 7), 0);
        Check.is("birth: of his street", x.person(1, 7), 1);
        Check.law(x, "dips");
        Check.is("dips", x.told(3), 2);
        Check.law(x, "year-1");
        Check.is("year", x.told(3), 4);
        Check.law(x, "year-2");
        Check.is("year", x.told(3), 0);
        Check.law(x, "age-21");
        Check.is("age", x.told(3), 2);
        Check.law(x, "dark-3");
        Check.is("dark", x.told(3), 2);
    }

    // ---- 5

    static void p05_workTexts() {
        DyeStreets x = Check.of(TOWN);
        Check.is("work", Check.work(x, "dip0 0;salt 0 ; year ;rain;"), 4);
        Check.is("work of blanks", Check.work(x, "   "), 0);
        Check.is("empty work", Check.work(x, ""), 0);
        Check.is("works", x.count(2), 3);
        Check.feed(x, " ".repeat(152));
        Check.is("tape stays", x.count(1), 160);
        Check.is("work 150", x.work(150), 0);
    }

    static void p05_workSteps() {
        DyeStreets x = Check.of(TOWN);
        Check.is("dips", Check.work(x, "dip 0 0;dip 0 0;dip 0 0;dip 0 0;dip 1 2;"), 4);
        Check.is("9 at most", x.person(0, 2), 900);
        Check.is("refused, if his shade stays", x.told(7), 1);
        Check.is("stock 0", x.stock(0), 39);
        Check.is("stock 1", x.stock(1), 7);
        Check.is("stock 2", x.stock(2), 48);
        Check.is("dipped", x.person(0, 4), 3);
        Check.is("a full dip is gone", Check.work(x, "wash 0;dip 0 0;"), 2);
        Check.is("a full dip is gone: stock", x.stock(0), 36);
        Check.is("a full dip is gone: shade", x.person(0, 2), 900);
        Check.is("less in stock", Check.work(x, "dip 2 1;dip 3 1;"), 1);
        Check.is("less in stock: refused", x.told(7), 1);
        Check.is("just as much", Check.work(x, "dip 2 2;dip 3 2;"), 1);
        Check.is("just as much: left", x.stock(1), 1);
    }

    static void p05_lacking() {
        String city = "street 4 0 0 0;street 0 4 0 0;street 0 0 4 0;person 0 1;stock %d 3;";
        for (int dye = 0; dye < 3; dye++) {
            DyeStreets x = Check.of(city.replace("%d", String.valueOf(dye)));
            Check.is("one dye lacks", Check.work(x, "dip 0 0;dip 0 1;dip 0 2;"), 2);
            Check.is("one dye lacks: shade", x.person(0, 2), dye == 0 ? 44 : dye == 1 ? 404 : 440);
            Check.is("nothing is gone", x.stock(dye), 3);
            Check.is("a river of 5", Check.work(x, "year;wash 0;wash 0;wash 0;wash 0;"), 5);
            Check.is("8 for two dips", Check.work(x, "dip 0 DD;dip 0 DD;dip 0 DD;".replace("DD", String.valueOf(dye))), 2);
            Check.is("just as much as there is", x.stock(dye), 0);
        }
    }

    static void p05_washing() {
        DyeStreets y = Check.of("street 3 4 5 0;person 0 1;");
        Check.is("wash once", Check.work(y, "dip 0 0;wash 0;"), 2);
        Check.is("wash once: shade", y.person(0, 2), 234);
        DyeStreets x = Check.of(TOWN);
        Check.is("wash", Check.work(x, "dip 0 0;dip 0 1;salt 0;wash 0;"), 4);
        Check.is("1 less of each", x.person(0, 2), 230);
        Check.is("salted no more", x.person(0, 6), 0);
        Check.is("wash to white", Check.work(x, "wash 0;wash 0;wash 0;salt 0;wash 0;"), 4);
        Check.is("white", x.person(0, 2), 0);
        Check.is("a white one stays salted", x.person(0, 6), 1);
        Check.is("refused", x.told(7), 1);
    }

    static void p05_salting() {
        DyeStreets x = Check.of(TOWN);
        Check.is("salt", Check.work(x, "salt 0;salt 0;salt 1;"), 2);
        Check.is("salted", x.told(5), 2);
        Check.is("salt twice", x.told(7), 1);
        Check.is("a salted one can be dipped", Check.work(x, "dip 0 0;"), 1);
    }

    static void p05_raining() {
        DyeStreets x = Check.of(TOWN);
        Check.is("rain on whites", Check.work(x, "rain;"), 1);
        Check.work(x, "dip 0 0;dip 1 1;dip 2 2;salt 0;rain;");
        Check.is("salted: no rain", x.person(0, 2), 300);
        Check.is("mean of three, cut", x.person(1, 2), 21);
        Check.is("mean of three, cut", x.person(2, 2), 21);
        Check.is("mean of three, cut", x.person(3, 2), 21);
        Check.is("two left", Check.work(x, "salt 1;dip 2 0;rain;"), 3);
        Check.is("two left: mean", x.person(3, 2), 121);
        Check.is("one left", Check.work(x, "salt 2;rain;"), 1);
        Check.is("one left: refused", x.told(7), 1);
        Check.is("cousins of one", x.cousins(), -1);
    }

    static void p05_marrying() {
        DyeStreets x = Check.of(TOWN);
        Check.is("marry", Check.work(x, "marry 0 1;marry 1 2;marry 2 0;marry 3 2;"), 2);
        Check.is("married", x.person(0, 5) * 100 + x.person(1, 5) * 10 + x.person(2, 5), 103);
        Check.is("refused", x.told(7), 2);
        DyeStreets y = Check.of("street 3 3 0 0;street 0 0 1 0;person 0 0;person 0 0;");
        Check.is("distance 7", Check.work(y, "dip 0 0;dip 0 1;marry 0 1;"), 2);
        Check.is("distance 6", Check.work(y, "dip 1 1;marry 1 0;"), 2);
        Check.is("distance 6: married", y.told(4), 2);
    }

    static void p05_fading() {
        DyeStreets x = Check.of(TOWN);
        Check.work(x, "dip 0 2;dip 1 2;salt 1;year;");
        Check.is("madder fades in year 0", x.person(0, 2), 122);
        Check.is("salted: stays", x.person(1, 2), 222);
        Check.is("salted no more", x.told(5), 0);
        Check.is("ages", x.person(0, 1) * 100 + x.person(3, 1), 1101);
        Check.is("river", x.stock(1), 7);
        Check.is("year", x.told(2), 1);
        Check.work(x, "year;");
        Check.is("indigo fades in year 1", x.person(1, 2), 212);
        Check.work(x, "year;");
        Check.is("weld fades in year 2", x.person(0, 2), 111);
        Check.work(x, "year;year;year;year;");
        Check.is("no less than white", x.person(0, 2), 0);
        DyeStreets y = Check.of("street 1 0 0 0;person 0 60;stock 0 181;stock 1 180;stock 2 199;river 20;");
        Check.work(y, "year;");
        Check.is("200 at most", y.stock(0), 200);
        Check.is("200 just", y.stock(1), 200);
        Check.is("200 at most", y.stock(2), 200);
        Check.work(y, "again 60[again 3[year;];];");
        Check.is("150 years and 50 agains", y.told(2), 150);
        Check.is("years up to 300", Check.work(y, "again 39[year;year;year;year;];"), 150);
        Check.is("year 300 is the last", y.told(2), 300);
        Check.is("year 300: refused", y.told(7), 6);
        Check.is("age in year 300", y.person(0, 1), 360);
    }

    static void p05_workLoops() {
        DyeStreets x = Check.of(TOWN);
        Check.is("again 0", Check.work(x, "again 0[year;];year;"), 1);
        Check.is("again in again", Check.work(x, "again 2[year;again 3[salt 0;wash 0;year;];];"), 14);
        Check.is("refused in agains", x.told(7), 6);
        Check.is("an empty again", Check.work(x, "again 60[again 60[];];year;"), 1);
        Check.is("six agains", Check.work(x, "again 2[again 1[again 2[again 1[again 2[again 1[year;];];];];];];"), 8);
        Check.is("agains one behind the other",
                Check.work(x, "again 2[year;again 2[salt 1;];year;];again 3[wash 1;];"), 6);
        Check.is("agains one behind the other: refused", x.told(7), 5);
        Check.is("as many agains as there is room for", Check.work(x, "again0[];".repeat(16) + "year;"), 1);
        Check.is("an again of 0 is passed by", Check.work(x, "again 0[again 3[year;];year;];salt 2;"), 1);
    }

    static void p05_workLimit() {
        DyeStreets x = new DyeStreets();
        Check.is("199 and the again", Check.work(x, "again 60[year;year;year;year;];"), 199);
        Check.is("199 years", x.told(2), 199);
        DyeStreets y = new DyeStreets();
        Check.is("an again counts each time", Check.work(y, "again 60[again 3[year;];];year;"), 149);
        DyeStreets z = new DyeStreets();
        Check.is("refused ones count", Check.work(z, "again 50[rain;rain;rain;];year;again 60[year;];"), 48);
        Check.is("refused ones count: refused", z.told(7), 150);
        DyeStreets w = new DyeStreets();
        Check.is("an again of 0 counts", Check.work(w, "again 60[again 0[];again 5[];year;];year;"), 61);
        Check.is("just 200", Check.work(w, "again 60[year;rain;year;];again 16[year;];year;year;"), 138);
        Check.is("201", Check.work(new DyeStreets(), "again 60[year;rain;year;];again 16[year;];year;year;year;"), 138);
    }

    // ---- 6 and 7

    static void p06_bookTexts() {
        DyeStreets x = Check.of(TOWN);
        Check.is("book", Check.book(x, " 2 9 ; 0 0;1 5; "), 3);
        Check.is("lines", x.told(6), 3);
        Check.is("an empty book", Check.book(x, ""), 0);
        Check.is("no lines", x.told(6), 0);
        Check.is("an empty book: all fit", x.fits(0), 6);
        Check.is("digits close together", Check.book(x, "00 009;"), 1);
        Check.feed(x, " ".repeat(61));
        Check.is("the tape stays", x.count(1), 80);
        Check.is("book 60", x.book(60), 0);
    }

    static void p07_faultPlaces() {
        DyeStreets x = Check.of(TOWN);
        Check.is("no fault", x.fault(), -1);
        Check.work(x, "year;yeer;");
        Check.is("a fault", x.fault(), 5);
        Check.is("asked again", x.fault(), 5);
        Check.illegal("law 1 of none", () -> x.law(1));
        Check.is("an exception reads no text", x.fault(), 5);
        x.image();
        x.restore();
        Check.is("restore reads no text", x.fault(), 5);
        Check.law(x, "dark");
        Check.is("a law without", x.fault(), -1);
        Check.book(x, "0 1;1");
        Check.is("a book with", x.fault(), 5);
        Check.work(x, "");
        Check.is("a work without", x.fault(), -1);
        Check.city(x, "  river");
        Check.is("a city with", x.fault(), 7);
        Check.city(x, TOWN);
        Check.is("a city without", x.fault(), -1);
    }

    // ---- 8 and 9

    static void p08_undoing() {
        DyeStreets x = Check.of(TOWN);
        Check.is("nothing to undo", x.undo(), -1);
        Check.work(x, "dip 0 0;salt 1;marry 2 3;");
        Check.work(x, "year;dip 0 1;");
        Check.work(x, "");
        Check.work(x, "wash 3;");
        Check.is("refused", x.told(7), 1);
        Check.is("undo a refused one", x.undo(), 3);
        Check.is("behind undo", x.told(7), 0);
        Check.is("undo an empty one", x.undo(), 2);
        Check.is("nothing else", x.person(0, 2), 241);
        Check.is("undo the year", x.undo(), 1);
        Check.is("shade", x.person(0, 2), 300);
        Check.is("salted", x.person(1, 6), 1);
        Check.is("year", x.told(2), 0);
        Check.is("age", x.person(0, 1), 10);
        Check.is("stock", x.stock(1), 9);
        Check.is("dips", x.person(0, 4), 1);
        Check.is("undo the first", x.undo(), 0);
        Check.is("white", x.told(8), 1);
        Check.is("married", x.told(4), 0);
        Check.is("stock", x.stock(0), 50);
        Check.is("nothing left", x.undo(), -1);
        for (int k = 0; k < 16; k++) {
            Check.is("16 works", Check.work(x, "year;"), 1);
        }
        Check.work(x, "");
        Check.is("a 17th", Check.work(x, "rubbish"), -20);
        Check.is("a 17th: no fault", x.fault(), -1);
        Check.is("a 17th: tape", x.count(1), 0);
        Check.is("a 17th: year", x.told(2), 16);
        Check.is("a 17th: works", x.count(2), 16);
        Check.illegal("a 17th behind the exception", () -> x.work(1));
        Check.is("undo of 16", x.undo(), 15);
        Check.is("year 15", x.told(2), 15);
        Check.is("a 16th again", Check.work(x, "rain;"), 1);
    }

    static void p09_telling() {
        DyeStreets x = Check.of(TOWN);
        Check.work(x, "dip 0 0;dip 1 1;dip 2 2;salt 1;salt 3;marry 3 0;wash 3;year;salt 3;dip 0 0;");
        Check.book(x, "0 1;2 2;");
        Check.law(x, "madder");
        int[] due = {3, 4, 1, 2, 2, 1, 2, 1, 4, 2};
        for (int what = 0; what < 10; what++) {
            Check.is("told " + what, x.told(what), due[what]);
        }
        Check.work(x, "rain;");
        Check.is("unlike shades", x.told(8), 2);
    }

    // ---- 10 to 17

    static void p10_streets() {
        DyeStreets x = Check.of(TOWN);
        Check.work(x, "dip 0 1;dip 1 2;");
        int[][] due = {{300, 5, 2, 1}, {41, 7, 1, 2}, {222, 2, 1, 1}};
        for (int s = 0; s < 3; s++) {
            for (int what = 0; what < 4; what++) {
                Check.is("street " + s + ", " + what, x.street(s, what), due[s][what]);
            }
        }
    }

    static void p11_people() {
        DyeStreets x = Check.of(TOWN);
        Check.work(x, "dip 0 1;dip 0 0;dip 1 2;salt 2;marry 2 3;");
        Check.law(x, "dips");
        int[][] due = {{0, 10, 341, 1, 2, -1, 0, 1}, {1, 20, 222, 2, 1, -1, 0, 1},
            {1, 30, 0, 0, 0, 3, 1, 0}, {2, 0, 0, 0, 0, 2, 0, 0}};
        for (int p = 0; p < 4; p++) {
            for (int what = 0; what < 8; what++) {
                Check.is("person " + p + ", " + what, x.person(p, what), due[p][what]);
            }
        }
    }

    static void p12_stocks() {
        DyeStreets x = Check.of(TOWN);
        Check.work(x, "dip 0 1;");
        Check.is("stock 0", x.stock(0), 50);
        Check.is("stock 1", x.stock(1), 5);
        Check.is("stock 2", x.stock(2), 49);
    }

    static void p13_woulds() {
        DyeStreets x = Check.of(TOWN);
        Check.law(x, "age-399+least[0,rank]+most[0,0-dips]");
        Check.is("would, age 400", x.would(0, 400, 9, 99, 300, 1) ? 1 : 0, 1);
        Check.is("would, age 399", x.would(999, 399, 0, 0, 0, 0) ? 1 : 0, 0);
        Check.law(x, "rank-8");
        Check.is("rank as told", x.would(0, 0, 9, 0, 0, 0) ? 1 : 0, 1);
        Check.law(x, "(dips-98)*(year-299)*birth");
        Check.is("dips 99, year 300, birth", x.would(0, 0, 0, 99, 300, 1) ? 1 : 0, 1);
        Check.is("not by birth", x.would(0, 0, 0, 99, 300, 0) ? 1 : 0, 0);
    }

    static void p14_distances() {
        DyeStreets x = new DyeStreets();
        Check.is("distance", x.distance(123, 321), 4);
        Check.is("distance of alike ones", x.distance(457, 457), 0);
        Check.is("distance 27", x.distance(0, 999), 27);
        Check.is("distance of indigo", x.distance(90, 0), 9);
    }

    static void p15_seemings() {
        DyeStreets x = Check.of("street 5 0 0 0;street 0 5 0 0;street 0 5 0 9;");
        Check.is("seems 0", x.seems(0), 0);
        Check.is("seems 1", x.seems(10), 1);
        Check.is("of alike ones the first", x.seems(550), 0);
        Check.is("of alike vats the first", x.seems(50), 1);
        Check.is("seems 999", x.seems(999), 0);
    }

    static void p16_dippings() {
        DyeStreets x = Check.of("street 5 0 3 0;street 0 0 0 0;stock 0 0;");
        Check.is("dipped, stocks not asked", x.dipped(111, 0), 614);
        Check.is("dipped, 9 at most", x.dipped(578, 0), 979);
        Check.is("dipped in nothing", x.dipped(578, 1), 578);
    }

    static void p17_cousins() {
        DyeStreets x = Check.of(TOWN);
        Check.work(x, "dip 0 0;dip 0 0;dip 1 1;dip 2 2;dip 2 0;");
        Check.is("cousins", x.cousins(), 210);
        Check.is("nothing stays changed", x.person(0, 2), 600);
        Check.work(x, "salt 0;salt 1;");
        Check.is("cousins of two", x.cousins(), 211);
        Check.work(x, "salt 3;");
        Check.is("cousins of one", x.cousins(), -1);
        Check.is("nobody's cousins", new DyeStreets().cousins(), -1);
    }

    // ---- 18 and 19

    static void p18_whens() {
        DyeStreets x = Check.of(TOWN);
        Check.work(x, "dip 0 0;dip 0 1;salt 0;dip 1 2;");
        Check.law(x, "dark-5");
        Check.is("sits now", x.when(0, 1), 0);
        Check.is("fades behind salt", x.when(0, 0), 4);
        Check.is("fades", x.when(1, 0), 1);
        Check.is("never", x.when(3, 1), -1);
        Check.is("never but now", x.when(3, 0), 0);
        Check.law(x, "age-79");
        Check.is("in 60 years", x.when(1, 1), 60);
        Check.is("not in 60 years", x.when(0, 1), -1);
        Check.law(x, "year-59");
        Check.is("year 60", x.when(0, 1), 60);
        Check.law(x, "year-60");
        Check.is("not year 61", x.when(0, 1), -1);
        Check.law(x, "60-year");
        Check.is("until year 60", x.when(0, 0), 60);
        Check.law(x, "61-year");
        Check.is("not until year 61", x.when(0, 0), -1);
        Check.is("nothing stays changed", x.told(2), 0);
        for (int k = 0; k < 2; k++) {
            Check.work(x, "again 60[year;year;];again 29[year;];");
        }
        Check.is("year 298", x.told(2), 298);
        Check.law(x, "year-350");
        Check.is("years beyond 300", x.when(0, 1), 53);
    }

    static void p19_sittings() {
        DyeStreets x = Check.of(TOWN);
        Check.work(x, "dip 0 0;dip 0 1;dip 1 2;salt 1;");
        Check.law(x, "dark-5");
        Check.is("sits: 8 7 6 6 5", x.sits(0, 30), 7);
        Check.is("sits: 6 6 5", x.sits(1, 30), 3);
        Check.is("sits 1", x.sits(1, 1), 1);
        Check.is("sits 0", x.sits(1, 0), 0);
        Check.law(x, "1");
        Check.is("sits all 30", x.sits(3, 30), (1 << 30) - 1);
        Check.law(x, "year/2*2-year+1");
        Check.is("sits each second year", x.sits(3, 6), 21);
        Check.is("nothing stays changed", x.told(2), 0);
    }

    // ---- 20 to 23

    private static void wayIs(DyeStreets x, int shade, int other, int... due) {
        String name = "way " + shade + " to " + other;
        Check.is(name, x.way(shade, other), due.length);
        for (int k = 0; k < due.length; k++) {
            Check.is(name + ", step " + k, x.step(shade, other, k), due[k]);
        }
        Check.is(name + ", behind", x.step(shade, other, due.length), -1);
    }

    static void p20_ways() {
        DyeStreets x = Check.of("street 0 0 0 0;street 1 0 0 0;street 3 0 0 0;street 2 0 0 0;"
                + "street 3 0 0 0;street 0 2 2 0;stock 0 0;");
        wayIs(x, 0, 0);
        wayIs(x, 0, 500, 2, 3);
        wayIs(x, 0, 400, 1, 2);
        wayIs(x, 400, 900, 2, 2);
        wayIs(x, 0, 622, 2, 2, 5);
        wayIs(x, 89, 899, 2, 2, 3, 5);
        wayIs(x, 999, 999);
        wayIs(Check.of("street 1 0 0 0;street 2 0 0 0;"), 0, 500, 0, 1, 1);
        wayIs(Check.of("street 2 0 0 0;street 1 0 0 0;"), 0, 500, 0, 0, 1);
        wayIs(Check.of("street 9 0 0 0;street 4 4 0 0;street 0 9 0 0;"), 0, 990, 0, 2);
        Check.is("no way down", x.way(100, 0), -1);
        Check.is("no way", x.way(0, 10), -1);
    }

    static void p21_steps() {
        DyeStreets x = Check.of("street 0 2 0 0;street 3 0 0 0;street 1 1 0 0;");
        Check.is("520: 1 and 2 and 2 in any order", x.way(0, 520), 3);
        Check.is("520: first", x.step(0, 520, 0), 1);
        Check.is("520: second", x.step(0, 520, 1), 2);
        Check.is("520: third", x.step(0, 520, 2), 2);
        Check.is("520: no fourth", x.step(0, 520, 3), -1);
        Check.is("no way down", x.step(100, 0, 0), -1);
        Check.is("no way", x.step(0, 1, 0), -1);
    }

    static void p22_sums() {
        DyeStreets x = Check.of("street 0 0 0 0;street 1 0 0 0;street 3 0 0 0;street 2 0 0 0;"
                + "street 3 0 0 0;street 0 5 5 0;stock 0 0;");
        Check.is("sums of white", x.sums(0, 0), 1);
        Check.is("fewest of white", x.sums(0, 1), 0);
        Check.is("sums 300: 111 12 3 3", x.sums(300, 0), 4);
        Check.is("fewest 300", x.sums(300, 1), 1);
        Check.is("sums 400: 1111 112 22 13 13", x.sums(400, 0), 5);
        Check.is("fewest 400", x.sums(400, 1), 2);
        Check.is("sums 155", x.sums(155, 0), 1);
        Check.is("fewest 155", x.sums(155, 1), 2);
        Check.is("nothing beyond 9", x.sums(199, 0), 0);
        Check.is("nothing beyond 9: fewest", x.sums(199, 1), -1);
        DyeStreets w = Check.of("street 1 0 0 0;street 2 0 0 0;street 4 0 0 0;");
        Check.is("fewest 200", w.sums(200, 1), 1);
        Check.is("fewest 300", w.sums(300, 1), 2);
        Check.is("fewest 700", w.sums(700, 1), 3);
        DyeStreets z = Check.of("street 0 0 1 0;street 0 1 0 0;");
        Check.is("a vat of 1", z.sums(9, 0), 1);
        Check.is("a vat of 1: fewest", z.sums(99, 1), 18);
        Check.is("ten of weld are not one of indigo", z.sums(10, 0), 1);
        Check.is("ten of indigo are not one of madder", z.sums(100, 0), 0);
        Check.is("ten of weld alone", Check.of("street 0 0 1 0;").sums(10, 0), 0);
        DyeStreets y = Check.of("street 1 1 1 0;".repeat(6));
        Check.is("six alike vats", y.sums(999, 0), 2002);
        Check.is("six alike vats: fewest", y.sums(999, 1), 9);
    }

    static void p23_tones() {
        DyeStreets x = Check.of("street 4 0 0 0;street 0 5 0 0;street 0 0 0 0;");
        Check.is("tones 0: 0 4 8 9 by 0 5 9", x.tones(0), 12);
        Check.is("tones 999", x.tones(999), 1);
        Check.is("tones 985", x.tones(985), 2);
        Check.is("all tones", Check.of("street 1 0 0 0;street 0 1 0 0;street 0 0 1 0;").tones(0), 1000);
        Check.is("tones without streets", new DyeStreets().tones(5), 1);
    }

    // ---- 24 to 27

    static void p24_fits() {
        DyeStreets x = Check.of(TOWN);
        Check.work(x, "dip 0 0;dip 1 1;dip 2 2;");
        Check.is("no book: all fit", x.fits(0), 6);
        Check.is("no book: the first", x.fits(1), 1);
        Check.book(x, "0 0;");
        Check.is("of one of them", x.fits(0), 5);
        Check.is("of one of them: first", x.fits(1), 1);
        Check.book(x, "0 2;1 0;");
        Check.is("of both of them", x.fits(0), 2);
        Check.is("of both of them: first", x.fits(1), 2);
        Check.book(x, "2 2;1 4;0 2;");
        Check.is("three lines", x.fits(0), 1);
        Check.is("three lines: first", x.fits(1), 12);
        Check.book(x, "2 9;");
        Check.is("none fits", x.fits(0), 0);
        Check.is("none fits: first", x.fits(1), -1);
    }

    static void p25_looks() {
        DyeStreets x = Check.of(TOWN);
        Check.work(x, "dip 0 0;dip 1 1;dip 2 2;");
        Check.is("look: 5 by madder, 5 by indigo, 5 by weld", x.look(0), 0);
        Check.is("look: most", x.look(1), 5);
        Check.book(x, "0 0;");
        Check.is("look behind madder", x.look(0), 1);
        Check.is("look behind madder: most", x.look(1), 4);
        Check.book(x, "0 3;2 1;");
        Check.is("only indigo", x.look(0), 1);
        Check.is("only indigo: most", x.look(1), 1);
        Check.book(x, "0 9;");
        Check.is("none is left", x.look(0), 1);
        Check.is("none is left: most", x.look(1), 0);
        Check.book(x, "0 0;1 0;2 0;");
        Check.is("all in lines", x.look(0), -1);
        Check.is("all in lines: most", x.look(1), -1);
        DyeStreets y = Check.of("street 1 2 3 0;street 0 3 5 0;street 0 0 1 0;" + "person 0 1;".repeat(4));
        Check.work(y, "dip 0 0;dip 1 1;dip 2 2;dip 2 2;");
        Check.is("the fewest: weld", y.look(0), 2);
        Check.is("the fewest: 3", y.look(1), 3);
        DyeStreets z = Check.of("street 9 9 9 0;street 0 0 8 0;person 0 1;person 0 1;person 0 1;stock 2 27;");
        Check.work(z, "dip 0 0;dip 1 0;dip 2 1;");
        Check.is("all by 9: three of madder, three of indigo, three of weld", z.look(1), 3);
        Check.book(z, "0 9;1 9;");
        Check.is("left by 9", z.look(1), 3);
        Check.book(z, "2 8;");
        Check.is("left by 9 or 0", z.look(1), 2);
    }

    static void p26_matches() {
        DyeStreets x = Check.of(TOWN);
        Check.is("all white: two pairs", x.match(0), 2);
        Check.is("all white: 0", x.match(1), 0);
        Check.is("the first way", x.bride(0) * 1000 + x.bride(1) * 100 + x.bride(2) * 10 + x.bride(3), 1032);
        Check.work(x, "dip 0 0;dip 1 2;dip 2 1;");
        Check.is("0 is too far from 2", x.match(0), 2);
        Check.is("5 and 5", x.match(1), 10);
        Check.is("0 with 1", x.bride(0), 1);
        Check.is("2 with 3", x.bride(2), 3);
        Check.work(x, "marry 2 1;marry 1 0;");
        Check.is("married ones are left out", x.match(0), 1);
        Check.is("married ones are left out: 0 and 3", x.bride(3), 0);
        Check.is("a married one", x.bride(1), -1);
        DyeStreets y = Check.of("street 1 0 0 0;street 1 1 1 0;person 0 1;person 0 1;person 0 1;person 1 1;");
        Check.is("one street alone", y.match(0), 1);
        Check.is("unmarried last", y.bride(0), 3);
        Check.is("unmarried", y.bride(1), -1);
        Check.work(y, "dip 0 0;dip 2 0;");
        Check.is("nearest of three", y.bride(3), 1);
        Check.is("nearest of three: distance", y.match(1), 0);
        Check.work(y, "dip 1 0;again 7[dip 3 0;];");
        Check.is("distance 6", y.match(1), 6);
        Check.is("distance 6: pair", y.bride(0), 3);
        Check.work(y, "dip 3 0;");
        Check.is("distance 7", y.match(0), 0);
        Check.is("distance 7: together", y.match(1), 0);
        Check.is("distance 7: none", y.bride(3), -1);
    }

    /** Most pairs go ahead of little distance. */
    static void p27_brides() {
        DyeStreets x = Check.of("street 3 0 0 0;street 0 6 0 0;street 0 0 6 0;"
                + "person 0 1;person 1 1;person 0 1;person 1 1;");
        Check.work(x, "dip 0 0;dip 1 0;dip 2 0;dip 3 0;dip 2 1;dip 3 2;");
        Check.is("two far pairs for one near one", x.match(0), 2);
        Check.is("two far pairs", x.match(1), 12);
        Check.is("0 with 3", x.bride(0), 3);
        Check.is("1 with 2", x.bride(1), 2);
        DyeStreets y = Check.of("street 1 0 0 0;street 0 0 0 0;street 0 0 0 1;"
                + "person 0 1;person 1 1;person 2 1;person 0 1;person 1 1;");
        Check.work(y, "dip 4 0;dip 3 0;");
        Check.is("five people", y.match(0), 2);
        Check.is("five people: 0", y.match(1), 0);
        Check.is("0 with 1, not with 2", y.bride(0), 1);
        Check.is("2 with none", y.bride(2), -1);
        Check.is("3 with 4", y.bride(4), 3);
    }

    // ---- 28 to 30

    static void p28_enoughs() {
        DyeStreets x = Check.of(TOWN);
        Check.is("none", x.enough(0), 0);
        Check.is("all now", x.enough(7), 0);
        Check.work(x, "dip 0 1;dip 1 1;");
        Check.is("indigo 1 for 4", x.enough(2), 2);
        Check.is("indigo 1 for 6", x.enough(6), 3);
        Check.is("indigo 1 for 2", x.enough(4), 1);
        Check.is("madder alone", x.enough(1), 0);
        Check.is("six streets", Check.of("street 9 9 9 0;".repeat(6)).enough(63), 1);
        DyeStreets y = Check.of("street 9 9 9 0;".repeat(6) + "stock 1 0;river 0;");
        Check.is("no river", y.enough(32), -1);
        Check.is("no madder", Check.of("street 1 0 0 0;stock 0 0;river 0;").enough(1), -1);
        Check.is("no weld", Check.of("street 0 0 1 0;stock 2 0;river 0;").enough(1), -1);
        DyeStreets z = Check.of("street 0 0 1 0;stock 2 0;river 1;");
        Check.is("in a year", z.enough(1), 1);
        Check.is("nothing stays changed", z.stock(2), 0);
    }

    static void p29_levels() {
        DyeStreets x = Check.of("stock 0 200;stock 1 0;stock 2 17;");
        Check.is("9 at most", x.level(0, 1), 9);
        Check.is("200 by 22", x.level(0, 22), 9);
        Check.is("200 by 23", x.level(0, 23), 8);
        Check.is("200 by 99", x.level(0, 99), 2);
        Check.is("nothing", x.level(1, 1), 0);
        Check.is("17 by 2", x.level(2, 2), 8);
        Check.is("17 by 17", x.level(2, 17), 1);
        Check.is("17 by 18", x.level(2, 18), 0);
    }

    static void p30_nights() {
        DyeStreets x = new DyeStreets();
        long[][] due = {{1, 0, 0, 1}, {1, 16, 1, 1}, {1, 1, 1, 16}, {1, 12, 3, 4}, {3, 8, 1, 2},
            {3, 1, 23, 2048}, {5, 4, 53, 512}, {9, 8, 1, 2}, {9, 0, 0, 1}, {9, 16, 1, 1},
            {9, 7, 12003609821L, 34359738368L}, {7, 2, 3271, 524288}, {9, 15, 34356403125L, 34359738368L}};
        for (long[] one : due) {
            int n = (int) one[0];
            int q = (int) one[1];
            Check.is("night " + n + ", " + q + ": above", x.night(n, q, 0), one[2]);
            Check.is("night " + n + ", " + q + ": below", x.night(n, q, 1), one[3]);
        }
    }

    // ---- 31 to 35

    static void p32_follows() {
        DyeStreets x = Check.of(TOWN);
        Check.work(x, "dip 0 0;dip 1 1;dip 2 2;");
        Check.is("300 goes with 300, 0 as well", x.follows(0, 1), 2);
        Check.is("41 goes with 41", x.follows(1, 0), 1);
        Check.is("222 is nearer to 222", x.follows(2, 1), 2);
        Check.is("0 and 41 are nearer to 41", x.follows(1, 2), 2);
        Check.is("alike distances go with neither", x.follows(0, 0), 0);
    }

    static void p31_guilds() {
        DyeStreets y = Check.of("street 1 0 0 0;street 5 0 0 0;street 9 0 0 0;person 0 1;person 0 1;person 0 1;");
        Check.work(y, "dip 0 0;dip 1 1;dip 2 2;");
        Check.is("one in the middle", y.guilds(0), 4);
        Check.is("one in the middle: first", y.guilds(1), 1);
        Check.is("one in the middle: both", y.guilds(2), 3);
        DyeStreets z = Check.of("street 0 1 0 0;street 9 9 9 0;street 1 0 0 0;person 0 1;");
        Check.work(z, "dip 0 2;");
        Check.is("one of them by his shade", z.guilds(0), 5);
        Check.is("one of them by his shade: first", z.guilds(1), 2);
        Check.is("one of them by his shade: both", z.guilds(2), 1);
        DyeStreets u = Check.of("street 0 0 0 0;street 1 0 0 0;person 0 1;person 1 1;");
        Check.is("all are white", u.guilds(0), 3);
        Check.is("both in one street", u.guilds(1), 0);
        Check.is("both in one street: neither", u.guilds(2), 0);
        Check.is("one street", Check.of("street 1 1 1 1;person 0 1;").guilds(0), 1);
        Check.is("no streets", new DyeStreets().guilds(1), -1);
        Check.is("no streets: both", new DyeStreets().guilds(2), 0);
        DyeStreets w = Check.of("street 9 9 9 0;street 9 9 8 0;street 1 0 0 0;street 0 1 0 0;person 0 1;person 0 1;");
        Check.work(w, "dip 0 2;dip 1 3;");
        Check.is("the first is 10 times the one's street", w.guilds(1), 23);
        Check.is("the first: both", w.guilds(2), 2);
        DyeStreets v = Check.of("street 1 0 0 0;street 3 0 0 0;person 0 1;person 0 1;");
        Check.work(v, "dip 0 0;dip 1 1;");
        Check.is("each its own", v.guilds(0), 2);
        Check.is("each its own: first", v.guilds(1), 1);
        Check.is("each its own: both", v.guilds(2), 2);
    }

    static void p33_aheads() {
        DyeStreets x = Check.of(TOWN);
        Check.work(x, "dip 0 0;dip 1 1;dip 2 2;salt 2;");
        Check.law(x, "indigo-1");
        Check.is("now", x.ahead(0, 0), 2);
        Check.is("now: dyes", x.ahead(0, 1), 14);
        Check.is("now: shades", x.ahead(0, 2), 4);
        Check.is("1 year: dyes", x.ahead(1, 1), 13);
        Check.is("3 years: dyes 200 30 211 0", x.ahead(3, 1), 9);
        Check.is("5 years: sit", x.ahead(5, 0), 1);
        Check.is("100 years: dyes", x.ahead(100, 1), 0);
        Check.is("100 years: shades", x.ahead(100, 2), 1);
        Check.is("nothing stays changed", x.told(2) + x.person(2, 6), 1);
        Check.is("nobody", new DyeStreets().ahead(5, 1), 0);
    }

    /**
     * Seed 1 draws 16838, 5758, 10113, 17515, 31051, 5627, 23010, 7419, 16212: the sky has 6, 11, 2;
     * 2 is dipped in 0, 3 in 2 and then in 0: 200 and 511 are left.
     */
    static void p34_drawn() {
        DyeStreets x = Check.of(TOWN);
        Check.is("three dips", x.ages(1, 0, 3, 1), 3);
        Check.is("three shades", x.ages(1, 2, 3, 3), 3);
        Check.is("rain below 7", x.ages(1, 7, 3, 2), 2);
        Check.is("rain below 6", x.ages(1, 6, 3, 2), 1);
        Check.is("rain below 2", x.ages(1, 2, 3, 2), 0);
        Check.is("rain levels", x.ages(1, 3, 3, 3), 2);
        String[] laws = {"1-(dark-7)*(dark-7)", "1-(madder-2)*(madder-2)", "indigo*weld", "dips-1", "madder-4",
            "madder-5", "year-2", "year-3", "age-32", "rank-2", "birth"};
        int[] due = {1, 1, 1, 1, 1, 0, 4, 0, 1, 4, 1};
        for (int k = 0; k < laws.length; k++) {
            Check.law(x, laws[k]);
            Check.is("drawn: " + laws[k], x.ages(1, 0, 3, 0), due[k]);
        }
        DyeStreets y = Check.of("street 1 0 0 0;person 0 1;");
        Check.is("one of each: 9 are left behind 32 fadings", y.ages(1, 16, 96, 1), 41);
        Check.is("one of each: no rain", y.ages(1, 16, 96, 2), 0);
        DyeStreets z = Check.of("street 1 0 0 0;person 0 1;stock 0 2;river 0;");
        Check.is("no more in stock", z.ages(1, 16, 96, 1), 2);
    }

    static void p34_ages() {
        DyeStreets x = Check.of(TOWN);
        Check.is("a dip", x.ages(1, 0, 1, 1), 1);
        Check.is("no rain", x.ages(1, 0, 1, 2), 0);
        Check.is("shades", x.ages(1, 0, 1, 3), 2);
        Check.law(x, "dips");
        Check.is("who is dipped sits", x.ages(1, 0, 1, 0), 1);
        Check.is("rain each year", x.ages(7, 16, 96, 2), 96);
        Check.is("nothing stays changed", x.told(2) + x.told(8), 1);
        Check.is("draws behind no rain", x.ages(1, 6, 1, 2), 0);
        Check.is("draws 6 below 7", x.ages(1, 7, 1, 2), 1);
        Check.is("any seed", x.ages(Integer.MIN_VALUE, 0, 1, 1), 1);
        Check.is("nobody", new DyeStreets().ages(5, 16, 96, 2), 0);
    }

    static void p35_spans() {
        DyeStreets x = Check.of(TOWN);
        Check.law(x, "dips*(birth+1)-1");
        int fewest = 9;
        int most = 0;
        int nobody = 0;
        for (int seed = -10; seed < 10; seed++) {
            int shades = x.ages(seed, 3, 4, 3);
            fewest = Math.min(fewest, shades);
            most = Math.max(most, shades);
            nobody += x.ages(seed, 3, 4, 0) == 0 ? 1 : 0;
        }
        Check.is("the seeds differ", most > fewest ? 1 : 0, 1);
        Check.is("fewest", x.span(-10, 20, 3, 4, 0), fewest);
        Check.is("most", x.span(-10, 20, 3, 4, 1), most);
        Check.is("nobody sits", x.span(-10, 20, 3, 4, 2), nobody);
        Check.is("one seed", x.span(4, 1, 3, 9, 0), x.ages(4, 3, 9, 3));
        Check.is("seeds wrap", x.span(Integer.MAX_VALUE, 2, 0, 1, 1),
                Math.max(x.ages(Integer.MAX_VALUE, 0, 1, 3), x.ages(Integer.MIN_VALUE, 0, 1, 3)));
        Check.is("nothing stays changed", x.told(2) + x.told(8), 1);
        Check.is("nobody: fewest", new DyeStreets().span(1, 20, 8, 96, 0), 0);
        Check.is("nobody: most", new DyeStreets().span(1, 20, 16, 96, 1), 0);
        Check.law(x, "0");
        Check.is("nobody may sit", x.span(1, 20, 16, 9, 2), 20);
        Check.law(x, "1");
        Check.is("all may sit", x.span(1, 20, 16, 9, 2), 0);
        Check.law(x, "dips-2");
        int none = x.ages(5, 0, 5, 0) == 0 ? 1 : 0;
        for (int many = 2; many <= 20; many++) {
            none += x.ages(4 + many, 0, 5, 0) == 0 ? 1 : 0;
            Check.is("seeds 5 and on: " + many, x.span(5, many, 0, 5, 2), none);
        }
        Check.is("some, not all", none > 2 && none < 18 ? 1 : 0, 1);
    }

    // ---- 36 to 39

    static void p37_worksOfImages() {
        DyeStreets x = Check.of(TOWN);
        Check.work(x, "dip 0 0;");
        Check.work(x, "dip 1 1;");
        Check.work(x, "year;");
        x.image();
        x.undo();
        x.undo();
        x.undo();
        Check.work(x, "dip 3 2;");
        Check.work(x, "salt 3;");
        x.image();
        Check.is("the other works", x.undo() + x.undo(), 1);
        Check.is("restore: one left", x.restore(), 1);
        Check.is("two works", x.count(2), 2);
        Check.is("restore: none left", x.restore(), 0);
        Check.is("the works of the image", x.undo(), 2);
        Check.is("before the year", x.told(2) * 1000 + x.person(1, 2), 41);
        Check.is("the works of the image", x.undo(), 1);
        Check.is("before the second dip", x.person(0, 2) * 1000 + x.person(1, 2), 300000);
        Check.is("never in the image", x.person(3, 2), 0);
    }

    static void p36_images() {
        DyeStreets x = Check.of(TOWN);
        Check.is("nothing to restore", x.restore(), -1);
        Check.work(x, "dip 0 0;");
        Check.is("image", x.image(), 1);
        Check.work(x, "dip 0 1;salt 0;");
        Check.work(x, "marry 2 3;year;");
        Check.is("image", x.image(), 2);
        x.undo();
        x.undo();
        x.undo();
        Check.is("image", x.image(), 3);
        Check.is("a fourth", x.image(), -1);
        Check.is("images", x.count(0), 3);
        Check.work(x, "wash 0;");
        Check.is("refused", x.told(7), 1);
        Check.law(x, "1");
        Check.is("restore", x.restore(), 2);
        Check.is("the law stays", x.told(3), 4);
        Check.is("behind restore", x.told(7), 0);
        Check.is("no works", x.count(2), 0);
        Check.is("white", x.person(0, 2), 0);
        Check.is("restore", x.restore(), 1);
        Check.is("works", x.count(2), 3);
        Check.is("shade", x.person(0, 2), 341);
        Check.is("year", x.told(2), 1);
        Check.is("stock", x.stock(0), 49);
        Check.is("married", x.told(4), 2);
        Check.is("undo behind restore", x.undo(), 2);
        Check.is("salted", x.told(5), 1);
        Check.is("undo behind restore", x.undo(), 1);
        Check.is("shade", x.person(0, 2), 300);
        Check.is("restore", x.restore(), 0);
        Check.is("one work", x.count(2), 1);
        Check.is("nothing to restore", x.restore(), -1);
        Check.is("undo", x.undo(), 0);
        Check.is("white", x.person(0, 2), 0);
    }

    static void p38_statuses() {
        DyeStreets x = new DyeStreets();
        Check.is("status 0", x.status(0), 0);
        Check.is("status 1", x.status(1), 0);
        x.image();
        Check.missing("stock", () -> x.stock(9));
        Check.missing("bride", () -> x.bride(0));
        Check.illegal("told", () -> x.told(99));
        Check.is("refusals: missing", x.status(0), 2);
        Check.is("refusals: illegal", x.status(1), 1);
        x.restore();
        x.city(0);
        Check.is("no image keeps it", x.status(0), 2);
        Check.law(x, "?");
        x.undo();
        x.restore();
        Check.is("faults and -1 are no refusals", x.status(0) + x.status(1), 3);
        Check.is("status 2", x.status(2), -1);
        Check.is("status -1", x.status(-1), -1);
    }

    static void p39_counts() {
        DyeStreets x = new DyeStreets();
        for (int what = 0; what < 3; what++) {
            Check.is("count " + what, x.count(what), 0);
        }
        x.work(0);
        x.work(0);
        x.image();
        x.feed(0, 0, 0, 0, 0);
        Check.is("count 0", x.count(0), 1);
        Check.is("count 1", x.count(1), 20);
        Check.is("count 2", x.count(2), 2);
        Check.is("count 3", x.count(3), -1);
        Check.is("count -1", x.count(-1), -1);
    }
}
