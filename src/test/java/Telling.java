/** A town to begin with, and the four texts by name, for the cases that tell something and look at what stays. */
final class Telling {
    /** 120 bytes: vats 300, 41, 222; four people; 50, 9 and 50 in stock; a river of 2. */
    static final String TOWN = "street 3 0 0 5;street 0 4 1 7;street 2 2 2 2;"
            + "person 0 10;person 1 20;person 1 30;person 2 0;stock 1 9;river 2;";

    private Telling() {
    }

    /** A town in which all that a text could spoil is there: law, book, two works, an image, a refused step. */
    static DyeStreets lived() {
        DyeStreets x = Check.of(TOWN);
        Check.is("a law", Check.law(x, "age-15"), 1);
        Check.is("a book", Check.book(x, "0 3;"), 1);
        Check.is("a work", Check.work(x, "dip 0 0;dip 0 0;dip 1 1;salt 2;marry 2 3;year;"), 6);
        Check.is("an image", x.image(), 1);
        Check.is("another work", Check.work(x, "dip 3 2;wash 2;"), 1);
        return x;
    }

    static int tell(DyeStreets x, String kind, String text) {
        Check.feed(x, text);
        return read(x, kind, text.length());
    }

    static int read(DyeStreets x, String kind, int n) {
        switch (kind) {
            case "city":
                return x.city(n);
            case "law":
                return x.law(n);
            case "work":
                return x.work(n);
            default:
                return x.book(n);
        }
    }

    /** The text has that fault at that place: the answer tells it, the tape is empty, all else stays. */
    static void fault(String kind, String text, int which, int place) {
        DyeStreets x = lived();
        String before = Check.all(x);
        String name = kind + " \"" + text + "\"";
        Check.is(name, tell(x, kind, text), which - 10);
        Check.is(name + ", its place", x.fault(), place);
        Check.same(name + ", what stays", Check.all(x), before);
    }

    /**
     * The first bytes of this text, all of which is on the tape: fault 1 at their length, or at the word
     * that they cut short; but those that are whole.
     */
    static void cutShort(String kind, String text, String whole) {
        for (int n = 0; n <= text.length(); n++) {
            DyeStreets x = Check.of("street 1 1 1 1;street 2 2 2 2;person 0 1;");
            Check.feed(x, text);
            String name = n + " bytes of " + kind + " \"" + text + "\"";
            boolean isWhole = whole.indexOf("|" + n + "|") >= 0;
            Check.is(name, read(x, kind, n) == -9, !isWhole);
            Check.is(name + ", the place", x.fault(), isWhole ? -1 : isCut(text, n) ? startOfWord(text, n) : n);
        }
    }

    private static boolean isLetter(String text, int k) {
        return k >= 0 && k < text.length() && text.charAt(k) >= 'a' && text.charAt(k) <= 'z';
    }

    private static boolean isCut(String text, int n) {
        return isLetter(text, n) && isLetter(text, n - 1);
    }

    private static int startOfWord(String text, int n) {
        int start = n;
        while (isLetter(text, start - 1)) {
            start--;
        }
        return start;
    }

    /** Counts that are none from 0 to the most: an IllegalArgumentException each, and all stays, the tape too. */
    static void counts(String kind, int most) {
        DyeStreets x = lived();
        Check.is("a text with a fault", tell(x, "law", "dark;"), -9);
        Check.feed(x, " ".repeat(40));
        String before = Check.all(x);
        for (int n : new int[] {-1, Integer.MIN_VALUE, 41, Integer.MAX_VALUE}) {
            Check.illegal(kind + " of " + n + ", 40 on the tape", () -> read(x, kind, n));
        }
        Check.same("40 on the tape", Check.all(x), before);
        Check.is("the place of the fault stays", x.fault(), 4);
        Check.feed(x, " ".repeat(560));
        for (int n : new int[] {most + 1, 601}) {
            Check.illegal(kind + " of " + n + ", 600 on the tape", () -> read(x, kind, n));
        }
        Check.is("600 on the tape", x.count(1), 600);
        Check.is("as many as there may be", read(x, kind, most), kind.equals("law") ? -9 : 0);
        Check.is("the tape is empty then", x.count(1), 0);
        Check.illegal("1 of none on the tape", () -> read(x, kind, 1));
        Check.is("0 of none on the tape", read(x, kind, 0), kind.equals("law") ? -9 : 0);
    }

    /** Asked, and nothing stays changed. */
    static void unchanged(DyeStreets x, String name, Check.Call... calls) {
        String before = Check.all(x);
        int place = x.fault();
        for (Check.Call call : calls) {
            call.answer();
        }
        Check.same("behind " + name, Check.all(x), before);
        Check.is("the fault behind " + name, x.fault(), place);
    }

    /** A call by one number: below the least and above the most it is an IllegalArgumentException. */
    static void illegalBeyond(String name, int least, int most, ByOne call) {
        for (int n : new int[] {least - 1, most + 1, Integer.MIN_VALUE, Integer.MAX_VALUE}) {
            Check.illegal(name + " of " + n, () -> call.answer(n));
        }
        call.answer(least);
        call.answer(most);
    }

    /** A call by one number, of which there are so many from 0 on: beyond them a NoSuchElementException. */
    static void missingBeyond(String name, int many, ByOne call) {
        for (int n : new int[] {-1, many, Integer.MIN_VALUE, Integer.MAX_VALUE}) {
            Check.missing(name + " of " + n, () -> call.answer(n));
        }
        if (many > 0) {
            call.answer(0);
            call.answer(many - 1);
        }
    }

    interface ByOne {
        long answer(int n);
    }
}
