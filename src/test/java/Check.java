import java.util.NoSuchElementException;

/** What the tests share: texts onto the tape, answers against what is due. */
final class Check {
    private static int asked = 0;
    private static int wrong = 0;
    private static String now = "";

    private Check() {
    }

    interface Call {
        long answer();
    }

    /** What is checked from now on is named ahead of each line that is printed. */
    static void begin(String name) {
        now = name + ": ";
    }

    static void is(String what, long got, long due) {
        asked++;
        if (got != due) {
            wrong(what + " answered " + got + ", due is " + due);
        }
    }

    static void is(String what, boolean got, boolean due) {
        is(what, got ? 1 : 0, due ? 1 : 0);
    }

    static void same(String what, String got, String due) {
        asked++;
        if (!got.equals(due)) {
            wrong(what + ": it is\n  " + got + "\n  due is\n  " + due);
        }
    }

    static void wrong(String line) {
        wrong++;
        System.out.println(now + line);
    }

    static void illegal(String what, Call call) {
        is(what + " (2 is an IllegalArgumentException)", outcome(call), 2);
    }

    static void missing(String what, Call call) {
        is(what + " (1 is a NoSuchElementException)", outcome(call), 1);
    }

    private static int outcome(Call call) {
        try {
            call.answer();
        } catch (NoSuchElementException e) {
            return 1;
        } catch (IllegalArgumentException e) {
            return e.getClass() == IllegalArgumentException.class ? 2 : 3;
        } catch (RuntimeException e) {
            return 3;
        }
        return 0;
    }

    /** Each character of the text is one byte; the last feed is filled up with bytes 0. */
    static int feed(DyeStreets x, String text) {
        int onTape = x.count(1);
        for (int start = 0; start < text.length(); start += 20) {
            int[] n = new int[5];
            for (int k = 0; k < 20; k++) {
                int sign = start + k < text.length() ? text.charAt(start + k) : 0;
                n[k / 4] = n[k / 4] << 8 | sign & 255;
            }
            onTape = x.feed(n[0], n[1], n[2], n[3], n[4]);
        }
        return onTape;
    }

    static int city(DyeStreets x, String text) {
        feed(x, text);
        return x.city(text.length());
    }

    static int law(DyeStreets x, String text) {
        feed(x, text);
        return x.law(text.length());
    }

    static int work(DyeStreets x, String text) {
        feed(x, text);
        return x.work(text.length());
    }

    static int book(DyeStreets x, String text) {
        feed(x, text);
        return x.book(text.length());
    }

    static DyeStreets of(String city) {
        DyeStreets x = new DyeStreets();
        if (city(x, city) < 0) {
            wrong("no city: " + city);
        }
        return x;
    }

    /** All that can be told of what is there but refusals and faults, in some 70 calls. */
    static String all(DyeStreets x) {
        StringBuilder all = new StringBuilder("told");
        for (int what = 0; what <= 9; what++) {
            all.append(' ').append(x.told(what));
        }
        for (int s = 0; s < x.told(0); s++) {
            all.append(" street");
            for (int what = 0; what <= 3; what++) {
                all.append(' ').append(x.street(s, what));
            }
        }
        for (int p = 0; p < x.told(1); p++) {
            all.append(" person");
            for (int what = 0; what <= 7; what++) {
                all.append(' ').append(x.person(p, what));
            }
        }
        all.append(" stock ").append(x.stock(0)).append(' ').append(x.stock(1)).append(' ').append(x.stock(2));
        all.append(" count ").append(x.count(0)).append(' ').append(x.count(1)).append(' ').append(x.count(2));
        return all.append(" book ").append(x.fits(0)).append(' ').append(x.look(0)).toString();
    }

    static void end(String name) {
        System.out.println(name + ": " + asked + " answers, " + wrong + " of them wrong");
        if (wrong != 0) {
            System.exit(1);
        }
    }
}
