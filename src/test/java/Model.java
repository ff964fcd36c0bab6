import java.lang.reflect.Array;
import java.math.BigInteger;
import java.util.ArrayList;
import java.util.HashMap;
import java.util.HashSet;
import java.util.List;
import java.util.Map;
import java.util.Set;
import java.util.TreeMap;
import java.util.function.Consumer;
import java.util.function.ToIntFunction;
import java.util.regex.Matcher;
import java.util.regex.Pattern;

/**
 * The document a second time, in another way than the class has it: with lists, maps, and texts
 * taken by patterns, and with no thought of what it costs. ModelTest holds one against the other.
 */
final class Model {
    private static final int BAD = -1, STATE = -2, FULL = -3, NONE = -4;
    private static final List<String> KINDS = List.of("red", "yellow", "orphan", "pin");
    private static final Pattern TOKEN = Pattern.compile("\\G *(?:([a-z]+)|([0-9]+)|(;))");

    private static final class Bug {
        int kind, spots, owner, at;
        Integer on = null;

        Bug copy() {
            Bug b = new Bug();
            b.kind = kind;
            b.spots = spots;
            b.owner = owner;
            b.at = at;
            b.on = on;
            return b;
        }

        int weight() {
            int up = spots / 2 + spots % 2;
            return List.of(spots, up, up + 1, spots * 2).get(kind);
        }

        int pace() {
            return List.of(1, 2, 1, 3).get(kind);
        }
    }

    private static final class World {
        final List<Integer> places = new ArrayList<>();
        final List<Bug> bugs = new ArrayList<>();
        final Map<Integer, Integer> winds = new TreeMap<>();
        int day = 0;
        int flights = 0;
        int landings = 0;

        World copy() {
            World w = new World();
            w.places.addAll(places);
            bugs.forEach(b -> w.bugs.add(b.copy()));
            w.winds.putAll(winds);
            w.day = day;
            return w;
        }

        int strength(int k) {
            return winds.getOrDefault(k, 0);
        }

        int counted(int p) {
            return bugs.stream().filter(b -> b.on != null && b.on == p).mapToInt(Bug::weight).sum();
        }

        int countedOfAll() {
            return bugs.stream().filter(b -> b.on != null).mapToInt(Bug::weight).sum();
        }

        int sitting() {
            return (int) bugs.stream().filter(b -> b.on != null).count();
        }

        int seeks(Bug b) {
            if (b.kind == 1) {
                return (b.owner + 1) % places.size();
            }
            if (b.kind == 2) {
                int least = Integer.MAX_VALUE;
                int whom = -1;
                for (int p = places.size() - 1; p >= 0; p--) {
                    if (counted(p) <= least) {
                        least = counted(p);
                        whom = p;
                    }
                }
                return whom;
            }
            return b.owner;
        }

        int at(Bug b) {
            return b.on == null ? b.at : places.get(b.on);
        }

        World run(int n) {
            for (int i = 0; i < n; i++) {
                dayBy(strength(day % 6));
            }
            return this;
        }

        void dayBy(int strong) {
            for (Bug b : bugs) {
                if (b.on != null && b.spots < strong) {
                    int to = at(b) + (day % 2 == 0 ? strong : -strong);
                    b.at = to > 9 ? 9 : to < 0 ? 0 : to;
                    b.on = null;
                    flights++;
                }
            }
            for (Bug b : bugs) {
                if (b.on == null) {
                    int whom = seeks(b);
                    int goal = places.get(whom);
                    for (int step = 0; step < b.pace() && b.at != goal; step++) {
                        b.at += b.at < goal ? 1 : -1;
                    }
                    if (b.at == goal) {
                        b.on = whom;
                        landings++;
                    }
                }
            }
            day++;
        }
    }

    private record Sight(int n, int p, int v) {
    }

    private record Picture(World world, List<Sight> seen) {
    }

    private World now = new World();
    private List<Sight> seen = new ArrayList<>();
    private String tape = "";
    private int fault = 0;
    private int torn = 0;
    private final Map<Integer, Picture> pictures = new HashMap<>();
    private final Object[] sheets = new Object[4];

    private boolean one(int p) {
        return p >= 0 && p < now.places.size();
    }

    private boolean bug(int b) {
        return b >= 0 && b < now.bugs.size();
    }

    private static boolean in(int v, int least, int most) {
        return least <= v && v <= most;
    }

    long call(String name, int... a) {
        switch (name) {
            case "feed": return feed(a[0]);
            case "end": return end(a[0]);
            case "text": return text();
            case "fault": return fault;
            case "rule": return rule(a[0]);
            case "one": return ofOne(a[0], a[1]);
            case "beetle": return beetle(a[0], a[1]);
            case "wind": return in(a[0], 0, 5) ? now.strength(a[0]) : BAD;
            case "meet": return meet(a[0], a[1]);
            case "alter": return alter(a[0], a[1], a[2]);
            case "walk": return one(a[0]) && in(a[1], 0, 9) ? now.places.set(a[0], a[1]) : BAD;
            case "blow": return blow(a[0], a[1]);
            case "dab": return dab(now, a[0], a[1], a[2]);
            case "lift": return lift(a[0], a[1]);
            case "days": return days(a[0]);
            case "runs": return runs(a[0], a[1]);
            case "ahead": return one(a[0]) && in(a[1], 0, 60) ? now.copy().run(a[1]).counted(a[0]) : BAD;
            case "where": return where(a[0], a[1]);
            case "home": return bug(a[0]) ? home(now.copy(), a[0]) : BAD;
            case "shed": return shed(a[0], a[1], a[2]);
            case "calm": return calm(a[0], a[1]);
            case "kind": return kind(a[0], a[1]);
            case "swap": return swap(a[0], a[1]);
            case "need": return need(a[0], a[1], a[2]);
            case "off": return off(a[0], a[1], a[2]);
            default: return callOfTheRest(name, a);
        }
    }

    private long callOfTheRest(String name, int... a) {
        switch (name) {
            case "luck": return bug(a[1])
                    ? odds(a[0], a[2], a[3], w -> w.bugs.get(a[1]).on == null ? 0 : 1) : BAD;
            case "mean": return one(a[1]) ? odds(a[0], a[2], a[3], w -> w.counted(a[1])) : BAD;
            case "see": return see(a[0], a[1], a[2]);
            case "forget": return forget(a[0]);
            case "owners": return bug(a[0]) ? bits(owners(a[0])) : BAD;
            case "kinds": return bug(a[0]) ? bits(kinds(a[0])) : BAD;
            case "ask": return ask(a[0], a[1]);
            case "drift": return drift(a[0], a[1], a[2]);
            case "keep": return keep(a[0]);
            case "back": return back(a[0]);
            case "sheet": return sheet(a[0], a[1], a[2]);
            case "lay": return lay(a[0], a[1], a[2]);
            case "read": return read(a[0], a[1], a[2], a[3]);
            case "torn": return torn;
            case "count": return count(a[0]);
            default: throw new IllegalArgumentException(name);
        }
    }

    // the text

    private int feed(int c) {
        if (!in(c, 0, 127)) {
            return BAD;
        }
        if (tape.length() == 160) {
            return FULL;
        }
        tape += (char) c;
        return tape.length();
    }

    private int end(int n) {
        if (!in(n, 0, tape.length())) {
            return BAD;
        }
        int had = tape.length();
        tape = tape.substring(0, n);
        return had;
    }

    private static final class Faulty extends Exception {
        private static final long serialVersionUID = 1L;
        final int fault, place;

        Faulty(int fault, int place) {
            this.fault = fault;
            this.place = place;
        }
    }

    private record Token(String sort, String text, int place) {
        int number() {
            return Integer.parseInt(text);
        }
    }

    private Token tokenFrom(int from) throws Faulty {
        Matcher m = TOKEN.matcher(tape);
        if (m.find(from)) {
            for (int g = 1; g <= 3; g++) {
                if (m.group(g) != null) {
                    if (g == 2 && m.group(g).length() > 2) {
                        throw new Faulty(1, m.start(g));
                    }
                    return new Token(List.of("name", "number", "sign").get(g - 1), m.group(g), m.start(g));
                }
            }
        }
        int place = from;
        while (place < tape.length() && tape.charAt(place) == ' ') {
            place++;
        }
        if (place < tape.length()) {
            throw new Faulty(1, place);
        }
        return new Token("end", "", place);
    }

    private Token due(String sort, Token before) throws Faulty {
        Token t = tokenFrom(before.place + before.text.length());
        if (!t.sort.equals(sort)) {
            throw new Faulty(2, t.place);
        }
        return t;
    }

    private int text() {
        fault = 0;
        try {
            World w = new World();
            int lines = 0;
            Token t = tokenFrom(0);
            while (!t.sort.equals("end")) {
                t = line(w, t);
                lines++;
                t = tokenFrom(t.place + 1);
            }
            for (Bug b : w.bugs) {
                if (b.owner >= w.places.size()) {
                    throw new Faulty(6, tape.length());
                }
            }
            now = w;
            seen = new ArrayList<>();
            pictures.clear();
            return lines;
        } catch (Faulty f) {
            fault = f.fault;
            return -10 - f.place;
        } finally {
            tape = "";
        }
    }

    /** Takes a line that begins with a token, and answers its sign. */
    private Token line(World w, Token name) throws Faulty {
        Token t = name;
        boolean isBug = KINDS.contains(name.text);
        if (!isBug && !name.text.equals("one") && !name.text.equals("wind")) {
            throw new Faulty(2, name.place);
        }
        if (isBug && w.bugs.size() == 6 || name.text.equals("one") && w.places.size() == 4) {
            throw new Faulty(5, name.place);
        }
        int[][] bounds = isBug ? new int[][] {{1, 9}, {0, 3}, {0, 9}}
                : name.text.equals("one") ? new int[][] {{0, 9}} : new int[][] {{0, 5}, {0, 9}};
        List<Integer> numbers = new ArrayList<>();
        for (int[] bound : bounds) {
            t = due("number", t);
            if (!in(t.number(), bound[0], bound[1])) {
                throw new Faulty(3, t.place);
            }
            if (name.text.equals("wind") && numbers.isEmpty() && w.winds.containsKey(t.number())) {
                throw new Faulty(4, t.place);
            }
            numbers.add(t.number());
        }
        t = due("sign", t);
        if (isBug) {
            Bug b = new Bug();
            b.kind = KINDS.indexOf(name.text);
            b.spots = numbers.get(0);
            b.owner = numbers.get(1);
            b.at = numbers.get(2);
            w.bugs.add(b);
        } else if (name.text.equals("one")) {
            w.places.add(numbers.get(0));
        } else {
            w.winds.put(numbers.get(0), numbers.get(1));
        }
        return t;
    }

    private int rule(int what) {
        switch (what) {
            case 0: return now.places.size();
            case 1: return now.bugs.size();
            case 2: return now.day;
            case 3: return now.sitting();
            case 4: return now.countedOfAll();
            case 5:
                int most = 0;
                for (int p = 0; p < now.places.size(); p++) {
                    most = Math.max(most, now.counted(p));
                }
                for (int p = 0; most > 0; p++) {
                    if (now.counted(p) == most) {
                        return p;
                    }
                }
                return NONE;
            default: return BAD;
        }
    }

    private int ofOne(int p, int what) {
        if (!one(p) || !in(what, 0, 3)) {
            return BAD;
        }
        Set<Integer> on = new HashSet<>();
        int byPins = 0;
        for (int b = 0; b < now.bugs.size(); b++) {
            Bug bug = now.bugs.get(b);
            if (bug.on != null && bug.on == p) {
                on.add(b);
                byPins += bug.kind == 3 ? bug.weight() : 0;
            }
        }
        return List.of(now.places.get(p), bits(on), now.counted(p), byPins).get(what);
    }

    private int beetle(int b, int what) {
        if (!bug(b) || !in(what, 0, 6)) {
            return BAD;
        }
        Bug x = now.bugs.get(b);
        return List.of(x.kind, x.spots, x.owner, now.at(x), x.on == null ? NONE : x.on, now.seeks(x), x.weight())
                .get(what);
    }

    private int meet(int p, int q) {
        if (!one(p) || !one(q) || p == q) {
            return BAD;
        }
        int sign = Integer.compare(now.counted(p), now.counted(q));
        return sign < 0 ? p : sign > 0 ? q : NONE;
    }

    // what is changed

    private int alter(int b, int what, int v) {
        if (!bug(b) || !in(what, 0, 2)) {
            return BAD;
        }
        Bug x = now.bugs.get(b);
        int was = List.of(x.kind, x.spots, x.owner).get(what);
        if (what == 0) {
            if (!in(v, 0, 3)) {
                return BAD;
            }
            x.kind = v;
        } else if (what == 1) {
            if (!in(v, 1, 9)) {
                return BAD;
            }
            x.spots = v;
        } else {
            if (!one(v)) {
                return BAD;
            }
            x.owner = v;
        }
        return was;
    }

    private int blow(int k, int v) {
        if (!in(k, 0, 5) || !in(v, 0, 9)) {
            return BAD;
        }
        Integer was = now.winds.put(k, v);
        return was == null ? 0 : was;
    }

    private int dab(World w, int kind, int spots, int owner) {
        if (!in(kind, 0, 3) || !in(spots, 1, 9) || !one(owner)) {
            return BAD;
        }
        if (w.bugs.size() == 6) {
            return FULL;
        }
        Bug b = new Bug();
        b.kind = kind;
        b.spots = spots;
        b.owner = owner;
        b.on = owner;
        w.bugs.add(b);
        return w.bugs.size();
    }

    private int lift(int b, int v) {
        if (!bug(b) || !in(v, 0, 9)) {
            return BAD;
        }
        Bug x = now.bugs.get(b);
        if (x.on == null) {
            return STATE;
        }
        int was = x.on;
        x.on = null;
        x.at = v;
        return was;
    }

    // days

    private int days(int n) {
        if (!in(n, 0, 30)) {
            return BAD;
        }
        if (now.day + n > 999) {
            return FULL;
        }
        int had = now.landings;
        return now.run(n).landings - had;
    }

    private int runs(int n, int what) {
        if (!in(n, 0, 60) || !in(what, 0, 3)) {
            return BAD;
        }
        if (what == 3) {
            for (int d = 0; d <= n; d++) {
                if (now.copy().run(d).bugs.stream().allMatch(b -> b.on != null)) {
                    return d;
                }
            }
            return NONE;
        }
        World w = now.copy().run(n);
        return List.of(w.sitting(), w.countedOfAll(), w.flights).get(what);
    }

    private int where(int b, int n) {
        if (!bug(b) || !in(n, 0, 60)) {
            return BAD;
        }
        Bug x = now.copy().run(n).bugs.get(b);
        return x.on == null ? -10 - x.at : x.on;
    }

    private static int home(World w, int b) {
        for (int d = 0; d <= 60; d++) {
            if (w.copy().run(d).bugs.get(b).on != null) {
                return d;
            }
        }
        return NONE;
    }

    // what is best

    private static int firstOf(TreeMap<Integer, Integer> worthOf, boolean isMost, int what) {
        if (worthOf.isEmpty()) {
            return NONE;
        }
        int best = isMost ? worthOf.values().stream().max(Integer::compare).get()
                : worthOf.values().stream().min(Integer::compare).get();
        for (int key : worthOf.keySet()) {
            if (worthOf.get(key) == best) {
                return what == 0 ? key : best;
            }
        }
        throw new IllegalStateException();
    }

    private World with(Consumer<World> change) {
        World w = now.copy();
        change.accept(w);
        return w;
    }

    private int shed(int p, int n, int what) {
        if (!one(p) || !in(n, 0, 60) || !in(what, 0, 1)) {
            return BAD;
        }
        TreeMap<Integer, Integer> all = new TreeMap<>();
        for (int v = 0; v < 10; v++) {
            int place = v;
            all.put(v, with(w -> w.places.set(p, place)).run(n).counted(p));
        }
        return firstOf(all, false, what);
    }

    private int calm(int n, int what) {
        if (!in(n, 0, 60) || !in(what, 0, 1)) {
            return BAD;
        }
        TreeMap<Integer, Integer> all = new TreeMap<>();
        int asItIs = now.copy().run(n).sitting();
        for (int k = 0; k < 6; k++) {
            int wind = k;
            int sitting = with(w -> w.winds.remove(wind)).run(n).sitting();
            if (sitting > asItIs) {
                all.put(k, sitting);
            }
        }
        return firstOf(all, true, what);
    }

    private int kind(int b, int what) {
        if (!bug(b) || !in(what, 0, 1)) {
            return BAD;
        }
        TreeMap<Integer, Integer> all = new TreeMap<>();
        for (int k = 0; k < 4; k++) {
            int kind = k;
            int days = home(with(w -> w.bugs.get(b).kind = kind), b);
            if (days >= 0) {
                all.put(k, days);
            }
        }
        return firstOf(all, false, what);
    }

    private int swap(int n, int what) {
        if (!in(n, 0, 60) || !in(what, 0, 1)) {
            return BAD;
        }
        TreeMap<Integer, Integer> all = new TreeMap<>();
        int asItIs = now.copy().run(n).countedOfAll();
        for (int lesser = 0; lesser < now.places.size(); lesser++) {
            for (int greater = lesser + 1; greater < now.places.size(); greater++) {
                int p = lesser;
                int q = greater;
                int sum = with(w -> w.places.set(p, w.places.set(q, w.places.get(p)))).run(n).countedOfAll();
                if (sum > asItIs) {
                    all.put(10 * p + q, sum);
                }
            }
        }
        return firstOf(all, true, what);
    }

    private int need(int b, int p, int n) {
        if (!bug(b) || !one(p) || !in(n, 0, 60)) {
            return BAD;
        }
        for (int s = 1; s <= 9; s++) {
            int spots = s;
            World w = with(x -> x.bugs.get(b).spots = spots).run(n);
            long ofThem = java.util.stream.IntStream.range(0, w.places.size())
                    .filter(q -> w.counted(q) < w.counted(p)).count();
            if (ofThem == w.places.size() - 1) {
                return s;
            }
        }
        return NONE;
    }

    private int off(int p, int n, int what) {
        if (!one(p) || !in(n, 0, 60) || !in(what, 0, 1)) {
            return BAD;
        }
        TreeMap<Integer, Integer> all = new TreeMap<>();
        int asItIs = now.copy().run(n).counted(p);
        for (int b = 0; b < now.bugs.size(); b++) {
            int away = b;
            int counted = with(w -> w.bugs.remove(away)).run(n).counted(p);
            if (counted < asItIs) {
                all.put(b, counted);
            }
        }
        return firstOf(all, false, what);
    }

    // still days by odds

    private long odds(int v, int n, int what, ToIntFunction<World> worth) {
        if (!in(v, 0, 10) || !in(n, 0, 8) || !in(what, 0, 1)) {
            return BAD;
        }
        BigInteger sum = BigInteger.ZERO;
        for (int still = 0; still < 1 << n; still++) {
            World w = now.copy();
            BigInteger share = BigInteger.ONE;
            for (int i = 0; i < n; i++) {
                boolean isStill = (still & 1 << i) != 0;
                share = share.multiply(BigInteger.valueOf(isStill ? v : 10 - v));
                w.dayBy(isStill ? 0 : w.strength(w.day % 6));
            }
            sum = sum.add(share.multiply(BigInteger.valueOf(worth.applyAsInt(w))));
        }
        BigInteger all = BigInteger.TEN.pow(n);
        BigInteger shared = sum.gcd(all);
        return (what == 0 ? sum : all).divide(shared).longValueExact();
    }

    // whose it is

    private int see(int n, int p, int v) {
        if (!in(n, 0, 20) || !one(p) || !in(v, 0, 99)) {
            return BAD;
        }
        if (seen.size() == 6) {
            return FULL;
        }
        seen.add(new Sight(n, p, v));
        return seen.size();
    }

    private int forget(int n) {
        if (!in(n, 0, seen.size())) {
            return BAD;
        }
        int had = seen.size();
        seen = new ArrayList<>(seen.subList(0, n));
        return had;
    }

    private boolean isAsSeen(World w) {
        return seen.stream().allMatch(s -> w.copy().run(s.n).counted(s.p) == s.v);
    }

    private Set<Integer> owners(int b) {
        Set<Integer> fitting = new HashSet<>();
        for (int o = 0; o < now.places.size(); o++) {
            int owner = o;
            if (isAsSeen(with(w -> w.bugs.get(b).owner = owner))) {
                fitting.add(o);
            }
        }
        return fitting;
    }

    private Set<Integer> kinds(int b) {
        Set<Integer> fitting = new HashSet<>();
        for (int k = 0; k < 4; k++) {
            int kind = k;
            if (isAsSeen(with(w -> w.bugs.get(b).kind = kind))) {
                fitting.add(k);
            }
        }
        return fitting;
    }

    private static int bits(Set<Integer> set) {
        return set.stream().mapToInt(i -> 1 << i).sum();
    }

    private int ask(int b, int what) {
        if (!bug(b) || !in(what, 0, 1)) {
            return BAD;
        }
        Set<Integer> possible = owners(b);
        TreeMap<Integer, Integer> all = new TreeMap<>();
        for (int n = 0; n <= 20; n++) {
            for (int p = 0; p < now.places.size(); p++) {
                Map<Integer, Integer> left = new HashMap<>();
                for (int o : possible) {
                    left.merge(with(w -> w.bugs.get(b).owner = o).run(n).counted(p), 1, Integer::sum);
                }
                int worst = left.values().stream().mapToInt(i -> i).max().orElse(0);
                if (worst < possible.size()) {
                    all.put(10 * n + p, worst);
                }
            }
        }
        return firstOf(all, false, what);
    }

    // by a seed

    private int drift(int seed, int n, int what) {
        if (!in(n, 1, 60) || !in(what, 0, 1)) {
            return BAD;
        }
        if (now.bugs.isEmpty()) {
            return STATE;
        }
        World w = now.copy();
        BigInteger all = BigInteger.ONE.shiftLeft(32);
        BigInteger grain = BigInteger.valueOf(seed).mod(all);
        for (int i = 0; i < n; i++) {
            grain = grain.multiply(BigInteger.valueOf(1103515245)).add(BigInteger.valueOf(12345)).mod(all);
            w.dayBy(grain.shiftRight(16).mod(BigInteger.valueOf(32768)).mod(BigInteger.TEN).intValue());
        }
        return what == 0 ? w.landings : w.countedOfAll();
    }

    // images, sheets

    private int keep(int k) {
        if (!in(k, 0, 1)) {
            return BAD;
        }
        return pictures.put(k, new Picture(now.copy(), new ArrayList<>(seen))) == null ? 0 : 1;
    }

    private int back(int k) {
        if (!in(k, 0, 1)) {
            return BAD;
        }
        if (!pictures.containsKey(k)) {
            return STATE;
        }
        now = pictures.get(k).world.copy();
        seen = new ArrayList<>(pictures.get(k).seen);
        return now.day;
    }

    private int sheet(int k, int lane, int n) {
        if (!in(k, 0, 3) || !in(lane, 0, 2) || n > 40) {
            return BAD;
        }
        if (n < 0) {
            return -14;
        }
        sheets[k] = lane == 0 ? new byte[n] : lane == 1 ? new short[n] : new int[n];
        return 1;
    }

    private int lay(int k, int i, int v) {
        if (!in(k, 0, 3)) {
            return BAD;
        }
        if (sheets[k] == null) {
            return -11;
        }
        if (!in(i, 0, Array.getLength(sheets[k]) - 1)) {
            return -12;
        }
        if (sheets[k] instanceof byte[] bytes) {
            bytes[i] = (byte) v;
        } else if (sheets[k] instanceof short[] shorts) {
            shorts[i] = (short) v;
        } else if (sheets[k] instanceof int[] ints) {
            ints[i] = v;
        }
        return 1;
    }

    /** The FAULT of a cell of a sheet taken as of a lane. */
    private int tearOf(int k, int lane, long i) {
        if (sheets[k] == null) {
            return 1;
        }
        if (!List.of(byte[].class, short[].class, int[].class).get(lane).isInstance(sheets[k])) {
            return 3;
        }
        return i < 0 || i >= Array.getLength(sheets[k]) ? 2 : 0;
    }

    private int read(int k, int lane, int f, int n) {
        if (!in(k, 0, 3) || !in(lane, 0, 2) || !in(n, 0, 13)) {
            return BAD;
        }
        World w = now.copy();
        int tear = 0;
        int came = 0;
        reading:
        for (int i = 0; i < n; i++) {
            int[] row = new int[3];
            for (int c = 0; c < 3; c++) {
                long at = (long) f + 3 * i + c;
                tear = tearOf(k, lane, at);
                if (tear != 0) {
                    break reading;
                }
                row[c] = ((Number) Array.get(sheets[k], (int) at)).intValue();
            }
            if (dab(w, row[0], row[1], row[2]) < 0) {
                return -20 - i;
            }
            came++;
        }
        now = w;
        torn = tear;
        return came;
    }

    private int count(int what) {
        switch (what) {
            case 0: return seen.size();
            case 1: return pictures.size();
            case 2: return tape.length();
            case 3: return sheets[0] == null ? NONE : Array.getLength(sheets[0]);
            case 4: return now.bugs.stream().mapToInt(b -> b.spots).sum();
            case 5: return now.winds.values().stream().mapToInt(v -> v).sum();
            default: return BAD;
        }
    }
}
