import java.util.ArrayDeque;
import java.util.ArrayList;
import java.util.Arrays;
import java.util.Collections;
import java.util.Deque;
import java.util.HashMap;
import java.util.HashSet;
import java.util.List;
import java.util.Map;
import java.util.NoSuchElementException;
import java.util.Set;
import java.util.function.ToIntFunction;

/**
 * The document told a second time, as slowly and as unlike the program as it goes: texts cut into
 * tokens, trees, copies of everything, searches through all cases. Tests compare the two.
 */
public final class Twin {
    private static final int NONE = -1;

    // ---- the state

    private static final class Person implements Cloneable {
        int age;
        int[] dyes = new int[3];
        boolean salted;
        int spouse = NONE;
        int dips;

        Person copy() {
            Person p = new Person();
            p.age = age;
            p.dyes = dyes.clone();
            p.salted = salted;
            p.spouse = spouse;
            p.dips = dips;
            return p;
        }

        int shade() {
            return dyes[0] * 100 + dyes[1] * 10 + dyes[2];
        }
    }

    private static final class Moment {
        List<Person> persons = new ArrayList<>();
        int[] stock = {50, 50, 50};
        int year;

        Moment copy() {
            Moment m = new Moment();
            for (Person p : persons) {
                m.persons.add(p.copy());
            }
            m.stock = stock.clone();
            m.year = year;
            return m;
        }
    }

    private record Image(Moment now, List<Moment> past) {
    }

    private record Step(String word, int a, int b, List<Step> body) {
    }

    private final List<Integer> tape = new ArrayList<>();
    private List<int[]> vats = new ArrayList<>();
    private List<Integer> ranks = new ArrayList<>();
    private List<Integer> homes = new ArrayList<>();
    private int river = 5;
    private Moment now = new Moment();
    private List<Moment> past = new ArrayList<>();
    private final List<Image> images = new ArrayList<>();
    private ToIntFunction<Map<String, Integer>> law;
    private Map<Integer, Integer> book = new HashMap<>();
    private int fault = NONE;
    private int lastRefused;
    private int missing;
    private int illegal;

    // ---- texts

    private static final class Stop extends RuntimeException {
        private static final long serialVersionUID = 1;
    }

    private record Token(char kind, int value, String word, int place) {
    }

    private final class Reading {
        final List<Token> tokens = new ArrayList<>();
        final List<int[]> faults = new ArrayList<>();
        int k = 0;

        Reading(List<Integer> bytes) {
            int i = 0;
            while (true) {
                while (i < bytes.size() && bytes.get(i) == 32) {
                    i++;
                }
                if (i == bytes.size()) {
                    tokens.add(new Token('e', 0, "", i));
                    return;
                }
                int start = i;
                StringBuilder all = new StringBuilder();
                if (digit(bytes.get(i))) {
                    while (i < bytes.size() && digit(bytes.get(i))) {
                        all.append((char) (int) bytes.get(i++));
                    }
                    java.math.BigInteger big = new java.math.BigInteger(all.toString());
                    int value = big.bitLength() > 20 ? 1 << 20 : big.intValue();
                    tokens.add(new Token('n', value, "", start));
                } else if (bytes.get(i) >= 'a' && bytes.get(i) <= 'z') {
                    while (i < bytes.size() && bytes.get(i) >= 'a' && bytes.get(i) <= 'z') {
                        all.append((char) (int) bytes.get(i++));
                    }
                    tokens.add(new Token('w', 0, all.toString(), start));
                } else {
                    tokens.add(new Token('s', bytes.get(i++), "", start));
                }
            }
        }

        boolean digit(int b) {
            return b >= '0' && b <= '9';
        }

        Token now() {
            return tokens.get(k);
        }

        void note(int kind, int place) {
            faults.add(new int[] {place, kind});
        }

        Stop stop() {
            note(1, now().place());
            return new Stop();
        }

        boolean isSign(char c) {
            return now().kind() == 's' && now().value() == c;
        }

        void sign(char c) {
            if (!isSign(c)) {
                throw stop();
            }
            k++;
        }

        boolean atEnd() {
            return now().kind() == 'e';
        }

        String word(String... those) {
            if (now().kind() != 'w' || !Arrays.asList(those).contains(now().word())) {
                throw stop();
            }
            return tokens.get(k++).word();
        }

        int number(int most) {
            if (now().kind() != 'n') {
                throw stop();
            }
            Token t = tokens.get(k++);
            if (t.value() > most) {
                note(2, t.place());
            }
            return t.value();
        }

        int placeBefore() {
            return tokens.get(k - 1).place();
        }

        /** 0 without a fault, else what the call answers. */
        int verdict() {
            faults.sort((x, y) -> x[0] != y[0] ? x[0] - y[0] : x[1] - y[1]);
            fault = faults.isEmpty() ? NONE : faults.get(0)[0];
            return faults.isEmpty() ? 0 : faults.get(0)[1] - 10;
        }
    }

    private Reading open(int n, int most) {
        demand(n >= 0 && n <= tape.size() && n <= most);
        List<Integer> bytes = new ArrayList<>(tape.subList(0, n));
        tape.clear();
        return new Reading(bytes);
    }

    public int feed(int a, int b, int c, int d, int e) {
        if (tape.size() > 580) {
            return NONE;
        }
        for (int x : new int[] {a, b, c, d, e}) {
            tape.add(x >> 24 & 255);
            tape.add(x >> 16 & 255);
            tape.add(x >> 8 & 255);
            tape.add(x & 255);
        }
        return tape.size();
    }

    public int city(int n) {
        Reading r = open(n, 600);
        List<int[]> newVats = new ArrayList<>();
        List<Integer> newRanks = new ArrayList<>();
        List<Integer> newHomes = new ArrayList<>();
        int newRiver = 5;
        Moment first = new Moment();
        int clauses = 0;
        try {
            while (!r.atEnd()) {
                String word = r.word("street", "person", "stock", "river");
                clauses++;
                if (clauses > 60) {
                    r.note(3, r.placeBefore());
                }
                if (word.equals("street")) {
                    if (newVats.size() == 6) {
                        r.note(3, r.placeBefore());
                    }
                    newVats.add(new int[] {r.number(9), r.number(9), r.number(9)});
                    newRanks.add(r.number(9));
                } else if (word.equals("person")) {
                    if (newHomes.size() == 8) {
                        r.note(3, r.placeBefore());
                    }
                    newHomes.add(r.number(newVats.size() - 1));
                    Person p = new Person();
                    p.age = r.number(60);
                    first.persons.add(p);
                } else if (word.equals("stock")) {
                    int dye = r.number(2);
                    int many = r.number(200);
                    if (dye <= 2) {
                        first.stock[dye] = many;
                    }
                } else {
                    newRiver = r.number(20);
                }
                r.sign(';');
            }
        } catch (Stop s) {
            // its fault is noted
        }
        if (r.verdict() != 0) {
            return r.verdict();
        }
        vats = newVats;
        ranks = newRanks;
        homes = newHomes;
        river = newRiver;
        now = first;
        past = new ArrayList<>();
        images.clear();
        law = null;
        book = new HashMap<>();
        lastRefused = 0;
        return homes.size();
    }

    public int law(int n) {
        Reading r = open(n, 150);
        ToIntFunction<Map<String, Integer>> read = null;
        try {
            read = lawE(r, 0);
            if (!r.atEnd()) {
                throw r.stop();
            }
        } catch (Stop s) {
            // its fault is noted
        }
        if (r.verdict() != 0) {
            return r.verdict();
        }
        law = read;
        return 1;
    }

    private ToIntFunction<Map<String, Integer>> lawE(Reading r, int open) {
        ToIntFunction<Map<String, Integer>> left = lawT(r, open);
        while (r.isSign('+') || r.isSign('-')) {
            boolean plus = r.isSign('+');
            r.k++;
            ToIntFunction<Map<String, Integer>> a = left;
            ToIntFunction<Map<String, Integer>> b = lawT(r, open);
            left = m -> plus ? a.applyAsInt(m) + b.applyAsInt(m) : a.applyAsInt(m) - b.applyAsInt(m);
        }
        return left;
    }

    private ToIntFunction<Map<String, Integer>> lawT(Reading r, int open) {
        ToIntFunction<Map<String, Integer>> left = lawU(r, open);
        while (r.isSign('*') || r.isSign('/')) {
            boolean times = r.isSign('*');
            r.k++;
            ToIntFunction<Map<String, Integer>> a = left;
            ToIntFunction<Map<String, Integer>> b = lawU(r, open);
            left = m -> {
                long x = a.applyAsInt(m);
                long y = b.applyAsInt(m);
                return (int) (times ? x * y : y == 0 ? 0 : x / y);
            };
        }
        return left;
    }

    private ToIntFunction<Map<String, Integer>> lawU(Reading r, int open) {
        if (r.now().kind() == 'n') {
            int value = r.number(999);
            return m -> value;
        }
        if (r.isSign('(')) {
            r.k++;
            deep(r, open);
            ToIntFunction<Map<String, Integer>> inner = lawE(r, open + 1);
            r.sign(')');
            return inner;
        }
        String word = r.word("madder", "indigo", "weld", "dark", "age", "rank", "dips", "year", "birth",
                "least", "most");
        if (word.equals("least") || word.equals("most")) {
            deep(r, open);
            r.sign('[');
            ToIntFunction<Map<String, Integer>> a = lawE(r, open + 1);
            r.sign(',');
            ToIntFunction<Map<String, Integer>> b = lawE(r, open + 1);
            r.sign(']');
            boolean least = word.equals("least");
            return m -> (a.applyAsInt(m) < b.applyAsInt(m)) == least ? a.applyAsInt(m) : b.applyAsInt(m);
        }
        return m -> m.get(word);
    }

    private void deep(Reading r, int open) {
        if (open >= 6) {
            r.note(3, r.placeBefore());
            throw new Stop();
        }
    }

    public int work(int n) {
        demand(n >= 0 && n <= tape.size() && n <= 150);
        if (past.size() == 16) {
            tape.clear();
            fault = NONE;
            return -20;
        }
        Reading r = open(n, 150);
        List<Step> steps = null;
        try {
            steps = steps(r, 0);
        } catch (Stop s) {
            // its fault is noted
        }
        if (r.verdict() != 0) {
            return r.verdict();
        }
        past.add(now.copy());
        int[] tally = new int[3];
        perform(steps, tally);
        lastRefused = tally[2];
        return tally[1];
    }

    private List<Step> steps(Reading r, int open) {
        List<Step> all = new ArrayList<>();
        while (open == 0 ? !r.atEnd() : !r.isSign(']')) {
            String word = r.word("dip", "wash", "salt", "rain", "marry", "year", "again");
            int a = 0;
            int b = 0;
            List<Step> body = null;
            switch (word) {
                case "dip" -> {
                    a = r.number(homes.size() - 1);
                    b = r.number(vats.size() - 1);
                }
                case "wash", "salt" -> a = r.number(homes.size() - 1);
                case "marry" -> {
                    a = r.number(homes.size() - 1);
                    b = r.number(homes.size() - 1);
                    if (a == b) {
                        r.note(2, r.placeBefore());
                    }
                }
                case "again" -> {
                    deep(r, open);
                    a = r.number(60);
                    r.sign('[');
                    body = steps(r, open + 1);
                    r.sign(']');
                }
                default -> {
                }
            }
            r.sign(';');
            all.add(new Step(word, a, b, body));
        }
        return all;
    }

    /** The tally: steps begun, done, refused. */
    private void perform(List<Step> steps, int[] tally) {
        for (Step s : steps) {
            if (tally[0] == 200) {
                return;
            }
            tally[0]++;
            if (s.word().equals("again")) {
                for (int k = 0; k < s.a(); k++) {
                    perform(s.body(), tally);
                }
            } else {
                tally[one(now, s) ? 1 : 2]++;
            }
        }
    }

    private boolean one(Moment m, Step s) {
        switch (s.word()) {
            case "dip":
                return dip(m, s.a(), s.b());
            case "wash": {
                Person p = m.persons.get(s.a());
                if (p.shade() == 0) {
                    return false;
                }
                for (int d = 0; d < 3; d++) {
                    p.dyes[d] = p.dyes[d] == 0 ? 0 : p.dyes[d] - 1;
                }
                p.salted = false;
                return true;
            }
            case "salt": {
                boolean was = m.persons.get(s.a()).salted;
                m.persons.get(s.a()).salted = true;
                return !was;
            }
            case "rain":
                return rain(m);
            case "marry": {
                Person a = m.persons.get(s.a());
                Person b = m.persons.get(s.b());
                if (a.spouse >= 0 || b.spouse >= 0 || apart(a.dyes, b.dyes) > 6) {
                    return false;
                }
                a.spouse = s.b();
                b.spouse = s.a();
                return true;
            }
            default:
                if (m.year == 300) {
                    return false;
                }
                year(m);
                return true;
        }
    }

    private boolean dip(Moment m, int person, int street) {
        int[] vat = vats.get(street);
        Person p = m.persons.get(person);
        int[] after = new int[3];
        for (int d = 0; d < 3; d++) {
            after[d] = p.dyes[d] + vat[d] > 9 ? 9 : p.dyes[d] + vat[d];
            if (vat[d] > m.stock[d]) {
                return false;
            }
        }
        if (Arrays.equals(after, p.dyes)) {
            return false;
        }
        p.dyes = after;
        p.dips++;
        for (int d = 0; d < 3; d++) {
            m.stock[d] -= vat[d];
        }
        return true;
    }

    private static boolean rain(Moment m) {
        List<Person> wet = new ArrayList<>();
        for (Person p : m.persons) {
            if (!p.salted) {
                wet.add(p);
            }
        }
        if (wet.size() < 2) {
            return false;
        }
        int[] mean = new int[3];
        for (int d = 0; d < 3; d++) {
            for (Person p : wet) {
                mean[d] += p.dyes[d];
            }
            mean[d] /= wet.size();
        }
        for (Person p : wet) {
            p.dyes = mean.clone();
        }
        return true;
    }

    private void year(Moment m) {
        for (Person p : m.persons) {
            if (!p.salted && p.dyes[m.year % 3] > 0) {
                p.dyes[m.year % 3]--;
            }
            p.salted = false;
            p.age++;
        }
        for (int d = 0; d < 3; d++) {
            m.stock[d] = m.stock[d] + river > 200 ? 200 : m.stock[d] + river;
        }
        m.year++;
    }

    public int book(int n) {
        Reading r = open(n, 60);
        Map<Integer, Integer> read = new HashMap<>();
        int lines = 0;
        try {
            while (!r.atEnd()) {
                int dye = r.number(2);
                lines++;
                if (lines > 3) {
                    r.note(3, r.placeBefore());
                }
                if (read.containsKey(dye)) {
                    r.note(2, r.placeBefore());
                }
                read.put(dye, r.number(9));
                r.sign(';');
            }
        } catch (Stop s) {
            // its fault is noted
        }
        if (r.verdict() != 0) {
            return r.verdict();
        }
        book = read;
        return lines;
    }

    public int fault() {
        return fault;
    }

    public int undo() {
        if (past.isEmpty()) {
            return NONE;
        }
        now = past.remove(past.size() - 1);
        lastRefused = 0;
        return past.size();
    }

    // ---- what is there

    private void demand(boolean holds) {
        if (!holds) {
            illegal++;
            throw new IllegalArgumentException();
        }
    }

    private void there(boolean is) {
        if (!is) {
            missing++;
            throw new NoSuchElementException();
        }
    }

    private void thereStreet(int s) {
        there(s >= 0 && s < vats.size());
    }

    private void therePerson(int p) {
        there(p >= 0 && p < homes.size());
    }

    private void demandShade(int s) {
        demand(s >= 0 && s <= 999);
    }

    private static int[] dyes(int shade) {
        return new int[] {shade / 100, shade % 100 / 10, shade % 10};
    }

    private static int shade(int[] dyes) {
        return dyes[0] * 100 + dyes[1] * 10 + dyes[2];
    }

    private static int apart(int[] a, int[] b) {
        return Math.abs(a[0] - b[0]) + Math.abs(a[1] - b[1]) + Math.abs(a[2] - b[2]);
    }

    private int seemsOf(int[] dyes) {
        int best = NONE;
        for (int s = vats.size() - 1; s >= 0; s--) {
            if (best < 0 || apart(dyes, vats.get(s)) <= apart(dyes, vats.get(best))) {
                best = s;
            }
        }
        return best;
    }

    private boolean worth(int[] dyes, int age, int rank, int dips, int year, int birth) {
        int dark = dyes[0] + dyes[1] + dyes[2];
        if (law == null) {
            return dark > 9;
        }
        Map<String, Integer> m = new HashMap<>();
        m.put("madder", dyes[0]);
        m.put("indigo", dyes[1]);
        m.put("weld", dyes[2]);
        m.put("dark", dark);
        m.put("age", age);
        m.put("rank", rank);
        m.put("dips", dips);
        m.put("year", year);
        m.put("birth", birth);
        return law.applyAsInt(m) > 0;
    }

    private boolean sits(Moment m, int person) {
        Person p = m.persons.get(person);
        int s = seemsOf(p.dyes);
        return worth(p.dyes, p.age, s < 0 ? 0 : ranks.get(s), p.dips, m.year, s == homes.get(person) ? 1 : 0);
    }

    private int sitting(Moment m) {
        int many = 0;
        for (int p = 0; p < homes.size(); p++) {
            many += sits(m, p) ? 1 : 0;
        }
        return many;
    }

    private static int shades(Moment m) {
        Set<Integer> all = new HashSet<>();
        for (Person p : m.persons) {
            all.add(p.shade());
        }
        return all.size();
    }

    public int told(int what) {
        demand(what >= 0 && what < 10);
        int married = 0;
        int salted = 0;
        for (Person p : now.persons) {
            married += p.spouse == NONE ? 0 : 1;
            salted += p.salted ? 1 : 0;
        }
        return new int[] {vats.size(), homes.size(), now.year, sitting(now), married, salted, book.size(),
            lastRefused, shades(now), river}[what];
    }

    public int street(int street, int what) {
        thereStreet(street);
        demand(what >= 0 && what < 4);
        int seem = 0;
        for (Person p : now.persons) {
            seem += seemsOf(p.dyes) == street ? 1 : 0;
        }
        int born = Collections.frequency(homes, street);
        return new int[] {shade(vats.get(street)), ranks.get(street), seem, born}[what];
    }

    public int person(int person, int what) {
        therePerson(person);
        demand(what >= 0 && what < 8);
        Person p = now.persons.get(person);
        return new int[] {homes.get(person), p.age, p.shade(), seemsOf(p.dyes), p.dips, p.spouse,
            p.salted ? 1 : 0, sits(now, person) ? 1 : 0}[what];
    }

    public int stock(int dye) {
        there(dye >= 0 && dye < 3);
        return now.stock[dye];
    }

    public boolean would(int shade, int age, int rank, int dips, int year, int birth) {
        demand(shade >= 0 && shade <= 999 && age >= 0 && age <= 400 && rank >= 0 && rank <= 9 && dips >= 0
                && dips <= 99 && year >= 0 && year <= 300 && (birth == 0 || birth == 1));
        return worth(dyes(shade), age, rank, dips, year, birth);
    }

    public int distance(int shade, int other) {
        demand(shade >= 0 && shade <= 999 && other >= 0 && other <= 999);
        return apart(dyes(shade), dyes(other));
    }

    public int seems(int shade) {
        demandShade(shade);
        return seemsOf(dyes(shade));
    }

    private int into(int shade, int street) {
        int[] a = dyes(shade);
        for (int d = 0; d < 3; d++) {
            a[d] = Math.min(9, a[d] + vats.get(street)[d]);
        }
        return shade(a);
    }

    public int dipped(int shade, int street) {
        thereStreet(street);
        demandShade(shade);
        return into(shade, street);
    }

    public int cousins() {
        Moment m = now.copy();
        if (!rain(m)) {
            return NONE;
        }
        for (Person p : m.persons) {
            if (!p.salted) {
                return p.shade();
            }
        }
        return NONE;
    }

    public int when(int person, int how) {
        therePerson(person);
        demand(how == 0 || how == 1);
        Moment m = now.copy();
        int years = 0;
        while (years <= 60) {
            if (sits(m, person) == (how == 1)) {
                return years;
            }
            year(m);
            years++;
        }
        return NONE;
    }

    public int sits(int person, int n) {
        therePerson(person);
        demand(n >= 0 && n <= 30);
        Moment m = now.copy();
        int bits = 0;
        int worth = 1;
        for (int k = 0; k < n; k++) {
            bits += sits(m, person) ? worth : 0;
            worth *= 2;
            year(m);
        }
        return bits;
    }

    // ---- shades

    /** Breadth first, street by street: the first way of the fewest dips to each shade. */
    private List<Integer> firstWay(int shade, int other) {
        Map<Integer, List<Integer>> ways = new HashMap<>();
        Deque<Integer> open = new ArrayDeque<>();
        ways.put(shade, new ArrayList<>());
        open.add(shade);
        while (!open.isEmpty()) {
            int at = open.remove();
            for (int s = 0; s < vats.size(); s++) {
                int next = into(at, s);
                if (!ways.containsKey(next)) {
                    List<Integer> way = new ArrayList<>(ways.get(at));
                    way.add(s);
                    ways.put(next, way);
                    open.add(next);
                }
            }
        }
        return ways.get(other);
    }

    public int way(int shade, int other) {
        demand(shade >= 0 && shade <= 999 && other >= 0 && other <= 999);
        List<Integer> way = firstWay(shade, other);
        return way == null ? NONE : way.size();
    }

    public int step(int shade, int other, int k) {
        demand(shade >= 0 && shade <= 999 && other >= 0 && other <= 999 && k >= 0);
        List<Integer> way = firstWay(shade, other);
        return way == null || k >= way.size() ? NONE : way.get(k);
    }

    /** All bags of dips, street by street: how many make just this, and the least one. */
    private int[] bags(int[] left, int street) {
        if (street == vats.size()) {
            return left[0] + left[1] + left[2] == 0 ? new int[] {1, 0} : new int[] {0, 99};
        }
        int[] vat = vats.get(street);
        if (vat[0] + vat[1] + vat[2] == 0) {
            return bags(left, street + 1);
        }
        int[] sum = {0, 99};
        for (int times = 0; times <= 9; times++) {
            int[] rest = new int[3];
            boolean goes = true;
            for (int d = 0; d < 3; d++) {
                rest[d] = left[d] - times * vat[d];
                goes &= rest[d] >= 0;
            }
            if (goes) {
                int[] behind = bags(rest, street + 1);
                sum[0] += behind[0];
                sum[1] = Math.min(sum[1], behind[1] + times);
            }
        }
        return sum;
    }

    public int sums(int shade, int what) {
        demand(shade >= 0 && shade <= 999 && what >= 0 && what <= 1);
        int[] all = bags(dyes(shade), 0);
        return what == 0 ? all[0] : all[0] == 0 ? NONE : all[1];
    }

    public int tones(int shade) {
        demandShade(shade);
        Set<Integer> seen = new HashSet<>();
        List<Integer> open = new ArrayList<>(List.of(shade));
        seen.add(shade);
        while (!open.isEmpty()) {
            int at = open.remove(0);
            for (int s = 0; s < vats.size(); s++) {
                if (seen.add(into(at, s))) {
                    open.add(into(at, s));
                }
            }
        }
        return seen.size();
    }

    // ---- children and marriages

    private List<int[]> fitting() {
        List<int[]> all = new ArrayList<>();
        for (int a = 0; a < homes.size(); a++) {
            for (int b = a + 1; b < homes.size(); b++) {
                boolean may = true;
                for (Map.Entry<Integer, Integer> line : book.entrySet()) {
                    may &= now.persons.get(a).dyes[line.getKey()] == line.getValue()
                            || now.persons.get(b).dyes[line.getKey()] == line.getValue();
                }
                if (may) {
                    all.add(new int[] {a, b});
                }
            }
        }
        return all;
    }

    public int fits(int what) {
        demand(what == 0 || what == 1);
        List<int[]> all = fitting();
        return what == 0 ? all.size() : all.isEmpty() ? NONE : 10 * all.get(0)[0] + all.get(0)[1];
    }

    public int look(int what) {
        demand(what == 0 || what == 1);
        int best = NONE;
        int bestMost = 1000;
        for (int d = 0; d < 3; d++) {
            if (book.containsKey(d)) {
                continue;
            }
            int[] left = new int[10];
            for (int[] pair : fitting()) {
                int va = now.persons.get(pair[0]).dyes[d];
                int vb = now.persons.get(pair[1]).dyes[d];
                left[va]++;
                if (va != vb) {
                    left[vb]++;
                }
            }
            int most = Arrays.stream(left).max().getAsInt();
            if (most < bestMost) {
                best = d;
                bestMost = most;
            }
        }
        return best == NONE ? NONE : what == 0 ? best : bestMost;
    }

    /** All ways to marry, kept as whom each has (9 for none): the best, of these the first. */
    private int[] bestWay() {
        int[] partner = new int[homes.size()];
        Arrays.fill(partner, -2);
        List<int[]> all = new ArrayList<>();
        marryAll(partner, 0, all);
        all.sort((a, b) -> {
            int[] ra = rating(a);
            int[] rb = rating(b);
            return ra[0] != rb[0] ? rb[0] - ra[0] : ra[1] != rb[1] ? ra[1] - rb[1] : Arrays.compare(a, b);
        });
        return all.get(0);
    }

    private int[] rating(int[] partner) {
        int pairs = 0;
        int far = 0;
        for (int p = 0; p < partner.length; p++) {
            if (partner[p] != 9 && partner[p] > p) {
                pairs++;
                far += apart(now.persons.get(p).dyes, now.persons.get(partner[p]).dyes);
            }
        }
        return new int[] {pairs, far};
    }

    private void marryAll(int[] partner, int p, List<int[]> all) {
        if (p == partner.length) {
            all.add(partner.clone());
            return;
        }
        if (partner[p] != -2) {
            marryAll(partner, p + 1, all);
            return;
        }
        partner[p] = 9;
        marryAll(partner, p + 1, all);
        Person a = now.persons.get(p);
        for (int q = p + 1; q < partner.length; q++) {
            Person b = now.persons.get(q);
            if (partner[q] == -2 && a.spouse == NONE && b.spouse == NONE && apart(a.dyes, b.dyes) <= 6
                    && !homes.get(p).equals(homes.get(q))) {
                partner[p] = q;
                partner[q] = p;
                marryAll(partner, p + 1, all);
                partner[q] = -2;
            }
        }
        partner[p] = -2;
    }

    public int match(int what) {
        demand(what == 0 || what == 1);
        return rating(bestWay())[what];
    }

    public int bride(int person) {
        therePerson(person);
        int whom = bestWay()[person];
        return whom == 9 ? NONE : whom;
    }

    // ---- stocks, witnesses, guilds

    public int enough(int streets) {
        demand(streets >= 0 && streets <= (int) Math.pow(2, vats.size()) - 1);
        Moment m = now.copy();
        for (int years = 0; years <= 100; years++) {
            int[] left = m.stock.clone();
            boolean will = true;
            for (int s = 0; s < vats.size(); s++) {
                for (int d = 0; d < 3 && (streets & 1 << s) != 0; d++) {
                    left[d] -= vats.get(s)[d];
                    will &= left[d] >= 0;
                }
            }
            if (will) {
                return years;
            }
            year(m);
        }
        return NONE;
    }

    public int level(int dye, int n) {
        there(dye >= 0 && dye < 3);
        demand(n >= 1 && n <= 99);
        return Math.min(9, now.stock[dye] / n);
    }

    /** All cases of n witnesses one by one, as bits. */
    public long night(int n, int q, int part) {
        demand(n >= 1 && n <= 9 && n % 2 == 1 && q >= 0 && q <= 16 && (part == 0 || part == 1));
        long above = 0;
        long below = 1;
        for (int bits = 0; bits < 1 << n; bits++) {
            long product = 1;
            for (int k = 0; k < n; k++) {
                product *= (bits >> k & 1) == 1 ? q : 16 - q;
            }
            above += Integer.bitCount(bits) > n / 2 ? product : 0;
        }
        for (int k = 0; k < n; k++) {
            below *= 16;
        }
        java.math.BigInteger a = java.math.BigInteger.valueOf(above);
        long common = a.gcd(java.math.BigInteger.valueOf(below)).longValue();
        return part == 0 ? above / common : below / common;
    }

    private int goWith(int a, int b) {
        int many = 0;
        for (Person p : now.persons) {
            many += apart(p.dyes, vats.get(a)) - apart(p.dyes, vats.get(b)) < 0 ? 1 : 0;
        }
        return many;
    }

    public int guilds(int what) {
        demand(what >= 0 && what <= 2);
        List<int[]> rests = new ArrayList<>();
        for (int a = 0; a < vats.size(); a++) {
            for (int b = 0; b < vats.size(); b++) {
                int bestA = 0;
                int bestB = 0;
                for (int s = 0; s < vats.size(); s++) {
                    bestA = Math.max(bestA, goWith(s, b));
                    bestB = Math.max(bestB, goWith(s, a));
                }
                if (goWith(a, b) == bestA && goWith(b, a) == bestB) {
                    rests.add(new int[] {a, b});
                }
            }
        }
        if (what == 0) {
            return rests.size();
        }
        if (rests.isEmpty()) {
            return what == 1 ? NONE : 0;
        }
        int a = rests.get(0)[0];
        int b = rests.get(0)[1];
        return what == 1 ? 10 * a + b : goWith(a, b) + goWith(b, a);
    }

    public int follows(int street, int other) {
        thereStreet(street);
        thereStreet(other);
        return goWith(street, other);
    }

    // ---- what is to come

    public int ahead(int years, int what) {
        demand(years >= 0 && years <= 100 && what >= 0 && what <= 2);
        Moment m = now.copy();
        for (int k = 0; k < years; k++) {
            year(m);
        }
        int all = 0;
        for (Person p : m.persons) {
            all += p.dyes[0] + p.dyes[1] + p.dyes[2];
        }
        return new int[] {sitting(m), all, shades(m)}[what];
    }

    private int seed;

    private int draw(int by) {
        long next = ((long) seed & 0xFFFFFFFFL) * 1103515245L + 12345L;
        seed = (int) next;
        return (int) (next / 65536 % 32768 + 32768) % 32768 % by;
    }

    private int[] live(int first, int q, int years) {
        Moment m = now.copy();
        seed = first;
        int dips = 0;
        int rains = 0;
        for (int k = 0; k < years; k++) {
            int sky = draw(16);
            if (sky < q) {
                rains += rain(m) ? 1 : 0;
            }
            if (!homes.isEmpty() && !vats.isEmpty()) {
                int person = draw(homes.size());
                int street = draw(vats.size());
                dips += dip(m, person, street) ? 1 : 0;
            }
            year(m);
        }
        return new int[] {sitting(m), dips, rains, shades(m)};
    }

    public int ages(int seed, int q, int years, int what) {
        demand(q >= 0 && q <= 16 && years >= 1 && years <= 96 && what >= 0 && what <= 3);
        return live(seed, q, years)[what];
    }

    public int span(int seed, int many, int q, int years, int what) {
        demand(many >= 1 && many <= 20 && q >= 0 && q <= 16 && years >= 1 && years <= 96 && what >= 0 && what <= 2);
        List<Integer> shades = new ArrayList<>();
        int nobody = 0;
        for (int k = 0; k < many; k++) {
            int[] one = live(seed + k, q, years);
            shades.add(one[3]);
            nobody += one[0] == 0 ? 1 : 0;
        }
        return what == 2 ? nobody : what == 0 ? Collections.min(shades) : Collections.max(shades);
    }

    // ---- images and counts

    public int image() {
        if (images.size() == 3) {
            return NONE;
        }
        List<Moment> kept = new ArrayList<>();
        for (Moment m : past) {
            kept.add(m.copy());
        }
        images.add(new Image(now.copy(), kept));
        return images.size();
    }

    public int restore() {
        if (images.isEmpty()) {
            return NONE;
        }
        Image last = images.remove(images.size() - 1);
        now = last.now();
        past = last.past();
        lastRefused = 0;
        return images.size();
    }

    public int status(int what) {
        return what == 0 ? missing : what == 1 ? illegal : NONE;
    }

    public int count(int what) {
        return what == 0 ? images.size() : what == 1 ? tape.size() : what == 2 ? past.size() : NONE;
    }
}
