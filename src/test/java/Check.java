import java.util.NoSuchElementException;

/** What the tests share: texts onto the tape, answers against what is due. */
final class Check {
    private static int asked = 0;
    private static int wrong = 0;

    private Check() {
    }

    interface Call {
        long answer();
    }

    static void is(String what, long got, long due) {
        asked++;
        if (got != due) {
            wrong++;
            System.out.println(what + " answered " + got + ", due is " + due);
        }
    }

    static void illegal(String what, Call call) {
        is(what + " (2 is an IllegalArgumentException)", outcome(call), 2);
    }

    static void missing(String what, Call call) {
        is(what + " (1 is a NoSuchElementException)", outcome(call), 1);
    }

    private static int outcome(Call call) {
        try {
            call.answer();
        } catch (NoSuchElementException e) {
            return 1;
        } catch (IllegalArgumentException e) {
            return e.getClass() == IllegalArgumentException.class ? 2 : 3;
        } catch (RuntimeException e) {
            return 3;
        }
        return 0;
    }

    /** Each character of the text is one byte; the last feed is filled up with bytes 0. */
    static int feed(DyeStreets x, String text) {
        int onTape = x.count(1);
        for (int start = 0; start < text.length(); start += 20) {
            int[] n = new int[5];
            for (int k = 0; k < 20; k++) {
                int sign = start + k < text.length() ? text.charAt(start + k) : 0;
                n[k / 4] = n[k / 4] << 8 | sign & 255;
            }
            onTape = x.feed(n[0], n[1], n[2], n[3], n[4]);
        }
        return onTape;
    }

    static int city(DyeStreets x, String text) {
        feed(x, text);
        return x.city(text.length());
    }

    static int law(DyeStreets x, String text) {
        feed(x, text);
        return x.law(text.length());
    }

    static int work(DyeStreets x, String text) {
        feed(x, text);
        return x.work(text.length());
    }

    static int book(DyeStreets x, String text) {
        feed(x, text);
        return x.book(text.length());
    }

    static DyeStreets of(String city) {
        DyeStreets x = new DyeStreets();
        if (city(x, city) < 0) {
            wrong++;
            System.out.println("no city: " + city);
        }
        return x;
    }

    static void end(String name) {
        System.out.println(name + ": " + asked + " answers, " + wrong + " of them wrong");
        if (wrong != 0) {
            System.exit(1);
        }
    }
}
