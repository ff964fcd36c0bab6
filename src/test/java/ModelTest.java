import java.lang.reflect.Method;
import java.lang.reflect.Modifier;
import java.util.ArrayList;
import java.util.List;
import java.util.Random;

/**
 * Runs of calls by chance (by seeds that stay, so each run of this test is the same), each answer
 * held against that of Model. An argument 'runs' asks for more runs than CI has time for.
 */
public final class ModelTest {
    private static final int[] ODD = {-1, -2, -3, 10, 11, 13, 14, 20, 21, 30, 31, 40, 41, 60, 61, 99,
        100, 127, 128, 160, 161, 255, 256, 1000, 65536, Integer.MAX_VALUE, Integer.MIN_VALUE};
    private static final String[] WORDS = {"one ", "red ", "yellow ", "orphan ", "pin ", "wind "};
    private static final String[] CRUMBS = {" ", ";", "one", "red", "wind", "pin", "0", "1", "9", "10",
        "6", "4", "100", "?", ".", "\t", "x", "A", "yellow", "  "};

    private final Random chance;
    private final Calls x = new Calls();
    private final Model model = new Model();
    private final List<String> told = new ArrayList<>();

    private ModelTest(long seed) {
        chance = new Random(seed);
    }

    public static void main(String[] args) {
        int runs = args.length == 1 ? Integer.parseInt(args[0]) : 400;
        for (int seed = 0; seed < runs && Due.wrongSoFar() == 0; seed++) {
            new ModelTest(seed).run(seed);
        }
        Due.end("ModelTest");
    }

    private static List<Method> face() {
        List<Method> all = new ArrayList<>();
        for (Method m : SorrowSpots.class.getDeclaredMethods()) {
            if (Modifier.isPublic(m.getModifiers())) {
                all.add(m);
            }
        }
        all.sort((a, b) -> a.getName().compareTo(b.getName()));
        return all;
    }

    private void run(int seed) {
        List<Method> face = face();
        // some runs keep to ordinary arguments, so that much comes about; some are mostly wrong ones
        double oddness = List.of(0.0, 0.03, 0.1, 0.3).get(seed % 4);
        int calls = 0;
        while (calls < Calls.MOST && Due.wrongSoFar() == 0) {
            if (calls == 0 || chance.nextInt(120) == 0) {
                String text = chance.nextInt(4) == 0 ? brokenText() : text();
                for (int i = 0; i < text.length(); i++) {
                    call("feed", text.charAt(i));
                }
                call("text");
                call("fault");
                calls += text.length() + 2;
            }
            Method m = face.get(chance.nextInt(face.size()));
            if (m.getName().equals("text") && chance.nextInt(10) != 0) {
                continue;
            }
            int[] a = new int[m.getParameterCount()];
            for (int i = 0; i < a.length; i++) {
                a[i] = chance.nextDouble() < oddness ? ODD[chance.nextInt(ODD.length)]
                        : ordinary(m.getName(), i);
            }
            call(m.getName(), a);
            calls++;
        }
    }

    private void call(String name, int... a) {
        told.add(Calls.told(name, a));
        long due = model.call(name, a);
        long got = x.answer(name, a);
        Due.is(Calls.told(name, a), got, due);
        if (got != due) {
            System.out.println("behind " + told);
        }
    }

    private int upTo(int most) {
        return chance.nextInt(most + 1);
    }

    /** A number that an argument may well be. */
    private int ordinary(String name, int i) {
        switch (name + i) {
            case "feed0": return " one1;".charAt(upTo(5));
            case "end0": return 0;
            case "rule0": case "count0": case "blow0": case "wind0": return upTo(5);
            case "one0": case "meet0": case "meet1": case "walk0": case "shed0": case "off0": return upTo(2);
            case "ahead0": case "need1": case "mean1": case "see1": return upTo(2);
            case "one1": case "sheet0": case "lay0": case "read0": case "runs1": return upTo(3);
            case "dab0": return upTo(3);
            case "beetle1": return upTo(6);
            case "alter1": case "sheet1": case "read1": case "dab2": return upTo(2);
            case "alter2": return upTo(5);
            case "beetle0": case "alter0": case "lift0": case "where0": case "home0": case "kind0": return upTo(4);
            case "need0": case "luck1": case "owners0": case "kinds0": case "ask0": return upTo(4);
            case "dab1": return 1 + upTo(8);
            case "walk1": case "blow1": case "lift1": return upTo(9);
            case "days0": return chance.nextInt(5) == 0 ? upTo(30) : upTo(4);
            case "runs0": case "ahead1": case "where1": case "shed1": case "calm0": case "swap0": return farness();
            case "need2": case "off1": return farness();
            case "luck0": case "mean0": return upTo(10);
            case "luck2": case "mean2": return chance.nextInt(12) == 0 ? 8 : upTo(5);
            case "see0": return upTo(20);
            case "see2": return chance.nextInt(3) == 0 ? 0 : upTo(12);
            case "forget0": return 0;
            case "drift0": return chance.nextInt();
            case "drift1": return 1 + upTo(59);
            case "sheet2": return chance.nextInt(3) == 0 ? upTo(40) : 9 + upTo(6);
            case "lay1": return upTo(14);
            case "lay2": return chance.nextInt(8) == 0 ? chance.nextInt() : upTo(3);
            case "read2": return upTo(8);
            case "read3": return chance.nextInt(6) == 0 ? upTo(13) : upTo(2);
            default: return upTo(1);
        }
    }

    private int farness() {
        return chance.nextInt(3) == 0 ? upTo(60) : upTo(8);
    }

    private String text() {
        StringBuilder text = new StringBuilder();
        int people = 1 + upTo(3);
        for (int p = 0; p < people; p++) {
            text.append("one ").append(upTo(9)).append(';');
        }
        for (int b = upTo(4); b > 0; b--) {
            text.append(WORDS[1 + upTo(3)]).append(1 + upTo(8)).append(' ').append(upTo(people - 1))
                    .append(' ').append(upTo(9)).append(';');
        }
        for (int k = 0; k < 6; k++) {
            if (chance.nextInt(2) == 0) {
                text.append("wind ").append(k).append(' ').append(upTo(9)).append(';');
            }
        }
        return text.length() > 160 ? text() : text.toString();
    }

    private String brokenText() {
        StringBuilder text = new StringBuilder(text());
        for (int i = 1 + upTo(2); i > 0; i--) {
            int at = upTo(text.length());
            if (chance.nextBoolean()) {
                text.insert(at, CRUMBS[upTo(CRUMBS.length - 1)]);
            } else if (chance.nextBoolean() && at < text.length()) {
                text.deleteCharAt(at);
            } else {
                text.setLength(at);
            }
        }
        return text.toString();
    }
}
