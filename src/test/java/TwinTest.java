import java.lang.reflect.InvocationTargetException;
import java.lang.reflect.Method;
import java.util.ArrayList;
import java.util.Arrays;
import java.util.List;
import java.util.Random;

/** Long runs of calls by fixed seeds: the program answers and throws as its twin does. */
public final class TwinTest {
    private static final int RUNS = 400;
    private static final int CALLS = 512;

    private final Random random;
    private final DyeStreets x = new DyeStreets();
    private final Twin twin = new Twin();
    private final List<String> log = new ArrayList<>();
    private int calls = 0;
    private int streets = 3;
    private int people = 4;

    private TwinTest(long seed) {
        random = new Random(seed);
    }

    public static void main(String[] args) throws Exception {
        int faults = 0;
        long answers = 0;
        for (int run = 0; run < RUNS; run++) {
            TwinTest t = new TwinTest(7000 + run);
            if (!t.run()) {
                faults++;
                System.out.println("run " + run + " ends unlike:");
                for (String line : t.log.subList(Math.max(0, t.log.size() - 25), t.log.size())) {
                    System.out.println("  " + line);
                }
                if (faults == 3) {
                    break;
                }
            }
            answers += t.calls;
        }
        System.out.println("TwinTest: " + answers + " answers, " + faults + " runs wrong");
        if (faults != 0) {
            System.exit(1);
        }
    }

    private boolean run() throws Exception {
        while (calls < CALLS - 60) {
            boolean alike = random.nextInt(4) == 0 || calls == 0 ? tell() : ask();
            if (!alike) {
                return false;
            }
        }
        return true;
    }

    // ---- one call on both

    private boolean both(String name, int... args) throws Exception {
        calls++;
        Class<?>[] types = new Class<?>[args.length];
        Object[] values = new Object[args.length];
        for (int k = 0; k < args.length; k++) {
            types[k] = int.class;
            values[k] = args[k];
        }
        String mine = outcome(DyeStreets.class.getMethod(name, types), x, values);
        String due = outcome(Twin.class.getMethod(name, types), twin, values);
        log.add(name + Arrays.toString(args) + " = " + mine + (mine.equals(due) ? "" : ", due is " + due));
        return mine.equals(due);
    }

    private static String outcome(Method m, Object on, Object[] values) throws Exception {
        try {
            return String.valueOf(m.invoke(on, values));
        } catch (InvocationTargetException e) {
            return e.getCause().getClass().getName();
        }
    }

    // ---- texts

    private boolean tell() throws Exception {
        int kind = calls == 0 ? 0 : random.nextInt(10);
        String text;
        String name;
        if (kind == 0 && (calls == 0 || random.nextInt(3) == 0)) {
            text = cityText();
            name = "city";
        } else if (kind <= 3) {
            text = expression(random.nextInt(4), new int[] {0});
            name = "law";
        } else if (kind <= 8) {
            text = workText(0);
            name = "work";
        } else {
            text = bookText();
            name = "book";
        }
        text = spaced(random.nextInt(4) == 0 && calls > 1 ? broken(text) : text);
        text = text.substring(0, Math.min(text.length(), 560));
        boolean alike = true;
        for (int start = 0; start < text.length() && alike; start += 20) {
            int[] n = new int[5];
            for (int k = 0; k < 20; k++) {
                int sign = start + k < text.length() ? text.charAt(start + k) : random.nextInt(256);
                n[k / 4] = n[k / 4] << 8 | sign & 255;
            }
            alike = both("feed", n);
        }
        log.add(name + " of \"" + text + "\"");
        alike = alike && both(name, random.nextInt(40) == 0 ? near(-1, 620) : text.length()) && both("fault");
        return alike && both("told", 7) && both("told", 0) && both("told", 1) && know();
    }

    private boolean know() {
        streets = x.told(0);
        people = x.told(1);
        return true;
    }

    private int number(int from, int to) {
        return from + random.nextInt(to - from + 1);
    }

    private String pick(String... all) {
        return all[random.nextInt(all.length)];
    }

    /** Blanks wherever they may stand, but not inside of what belongs together. */
    private String spaced(String text) {
        StringBuilder all = new StringBuilder();
        boolean loose = random.nextInt(3) == 0 && text.length() < 100;
        for (int k = 0; k < text.length(); k++) {
            char c = text.charAt(k);
            boolean sign = !Character.isLetterOrDigit(c);
            all.append(loose && sign && random.nextInt(4) == 0 ? " " : "").append(c);
        }
        return all.append(random.nextInt(6) == 0 ? "  " : "").toString();
    }

    private String broken(String text) {
        StringBuilder all = new StringBuilder(text);
        for (int k = random.nextInt(2); k >= 0 && all.length() > 0; k--) {
            int at = random.nextInt(all.length());
            char c = "0123456789 ;,()[]+-*/abdeilrsty\u00ffA\t".charAt(random.nextInt(34));
            switch (random.nextInt(5)) {
                case 0 -> all.deleteCharAt(at);
                case 1 -> all.setCharAt(at, c);
                case 2 -> all.insert(at, c);
                case 3 -> all.setLength(at);
                default -> all.insert(at, text.charAt(random.nextInt(text.length())));
            }
        }
        return all.toString();
    }

    private String cityText() {
        StringBuilder all = new StringBuilder();
        int manyStreets = random.nextInt(20) == 0 ? 7 : random.nextInt(20) == 0 ? 0 : number(1, 6);
        int manyPeople = manyStreets == 0 ? 0 : random.nextInt(20) == 0 ? 9 : number(1, 8);
        int top = pick("2", "3", "9").charAt(0) - '0';
        for (int s = 0; s < manyStreets; s++) {
            all.append("street ").append(number(0, top)).append(' ').append(number(0, top)).append(' ')
                    .append(number(0, top)).append(' ').append(number(0, 9)).append(';');
            if (random.nextInt(4) == 0 && manyPeople > 0) {
                all.append(personText(s + 1));
                manyPeople--;
            }
        }
        for (int p = 0; p < manyPeople; p++) {
            all.append(personText(manyStreets));
        }
        for (int k = random.nextInt(4); k > 0; k--) {
            all.append("stock ").append(number(0, 2)).append(' ')
                    .append(random.nextInt(3) == 0 ? number(0, 201) : number(0, 30)).append(';');
        }
        if (random.nextInt(2) == 0) {
            all.append("river ").append(random.nextInt(3) == 0 ? number(0, 21) : number(0, 3)).append(';');
        }
        if (random.nextInt(25) == 0) {
            for (int k = number(40, 60); k > 0; k--) {
                all.append("river").append(number(0, 9)).append(';');
            }
        }
        return all.toString();
    }

    private String personText(int known) {
        int home = random.nextInt(60) == 0 ? known : number(0, known - 1);
        return "person " + home + " " + (random.nextInt(60) == 0 ? 61 : number(0, 60)) + ";";
    }

    private String expression(int depth, int[] size) {
        size[0]++;
        if (depth <= 0 || size[0] > 12) {
            return switch (random.nextInt(5)) {
                case 0 -> String.valueOf(number(0, 9));
                case 1 -> String.valueOf(random.nextInt(20) == 0 ? number(0, 1001) : number(0, 40));
                default -> pick("madder", "indigo", "weld", "dark", "age", "rank", "dips", "year", "birth");
            };
        }
        String a = expression(depth - 1 + random.nextInt(2), size);
        String b = expression(depth - 1, size);
        return switch (random.nextInt(8)) {
            case 0 -> "(" + a + ")";
            case 1 -> "least[" + a + "," + b + "]";
            case 2 -> "most[" + a + "," + b + "]";
            case 3 -> a + "*" + b;
            case 4 -> a + "/" + b;
            case 5 -> a + "+" + b;
            default -> a + "-" + b;
        };
    }

    private String someone() {
        return String.valueOf(random.nextInt(80) == 0 ? number(0, 9) : number(0, Math.max(0, people - 1)));
    }

    private String workText(int depth) {
        StringBuilder all = new StringBuilder();
        for (int k = random.nextInt(7); k > 0; k--) {
            String step = switch (random.nextInt(10)) {
                case 0, 1, 2, 3 -> "dip " + someone() + " "
                        + (random.nextInt(80) == 0 ? 6 : number(0, Math.max(0, streets - 1)));
                case 4 -> "wash " + someone();
                case 5 -> "salt " + someone();
                case 6 -> random.nextInt(2) == 0 ? "rain" : "year";
                case 7 -> "marry " + someone() + " " + someone();
                case 8 -> "year";
                default -> depth > 6 ? "rain" : "again " + (random.nextInt(4) == 0 ? number(0, 61) : number(0, 4))
                        + "[" + workText(depth + 1) + "]";
            };
            all.append(step).append(';');
        }
        return all.toString();
    }

    private String bookText() {
        StringBuilder all = new StringBuilder();
        for (int k = random.nextInt(4); k > 0; k--) {
            all.append(number(0, 2)).append(' ').append(random.nextInt(20) == 0 ? 10 : number(0, 4)).append(';');
        }
        return all.toString();
    }

    // ---- questions

    private int shade() {
        if (random.nextInt(60) == 0) {
            return beyond(0, 999);
        }
        if (random.nextInt(2) == 0 && people > 0 && x.count(1) == 0) {
            return x.person(random.nextInt(people), 2);
        }
        return random.nextInt(1000);
    }

    /** Mostly what may be; now and then what is just beyond it, or as far beyond as numbers go. */
    private int near(int from, int to) {
        return random.nextInt(50) == 0 ? beyond(from, to) : number(from, to);
    }

    private int beyond(int from, int to) {
        int[] all = {from - 1, to + 1, Integer.MIN_VALUE, Integer.MAX_VALUE};
        return all[random.nextInt(all.length)];
    }

    private boolean ask() throws Exception {
        int person = near(0, Math.max(0, people - 1));
        int street = near(0, Math.max(0, streets - 1));
        switch (random.nextInt(35)) {
            case 0: return both("told", near(0, 9));
            case 1: return both("street", street, near(0, 3));
            case 2: return both("person", person, near(0, 7));
            case 3: return both("stock", near(0, 2));
            case 4: return both("would", shade(), near(0, 400), near(0, 9), near(0, 99), near(0, 300), near(0, 1));
            case 5: return both("distance", shade(), shade());
            case 6: return both("seems", shade());
            case 7: return both("dipped", shade(), street);
            case 8: return both("cousins");
            case 9: return both("when", person, near(0, 1));
            case 10: return both("sits", person, near(0, 30));
            case 11: return both("way", random.nextInt(2) == 0 ? 0 : shade(), shade());
            case 12: return both("step", random.nextInt(2) == 0 ? 0 : shade(), shade(), near(0, 4));
            case 13: return both("sums", shade(), near(0, 1));
            case 14: return both("tones", shade());
            case 15: return both("fits", near(0, 1));
            case 16: return both("look", near(0, 1));
            case 17: return both("match", near(0, 1));
            case 18: return both("bride", person);
            case 19: return both("enough", near(0, (1 << streets) - 1));
            case 20: return both("level", near(0, 2), near(1, 99));
            case 21: return both("night", near(1, 9), near(0, 16), near(0, 1));
            case 22: return both("guilds", near(0, 2));
            case 23: return both("follows", street, near(0, Math.max(0, streets - 1)));
            case 24: return both("ahead", near(0, 100), near(0, 2));
            case 25: return both("ages", random.nextInt(), near(0, 16), near(1, 96), near(0, 3));
            case 26: return both("span", random.nextInt(), near(1, 20), near(0, 16), near(1, 96), near(0, 2));
            case 27: return both("image");
            case 28: return random.nextInt(3) != 0 || both("restore");
            case 29: return both("status", near(0, 1));
            case 30: return both("count", near(0, 2));
            case 31: return both("undo");
            case 32: return random.nextInt(20) != 0 || both("feed", 1, 2, 3, 4, 5);
            case 33: return all();
            default: return both("fault");
        }
    }

    /** All that can be told of what is there, so that nothing goes astray unseen. */
    private boolean all() throws Exception {
        for (int p = 0; p < people; p++) {
            for (int what = 1; what < 8; what++) {
                if (random.nextInt(3) == 0 && !both("person", p, what)) {
                    return false;
                }
            }
        }
        return both("stock", 0) && both("stock", 1) && both("stock", 2);
    }
}
