import java.lang.reflect.InvocationTargetException;
import java.lang.reflect.Method;
import java.lang.reflect.Modifier;
import java.nio.charset.StandardCharsets;
import java.util.ArrayList;
import java.util.Arrays;
import java.util.Collections;
import java.util.Comparator;
import java.util.HashSet;
import java.util.List;
import java.util.Random;
import java.util.Set;

/** Random runs of calls, each answered by RiverText and by NaiveRiver alike. */
public final class AgainstNaiveTest {
    private static final int RUNS = 2000;
    /** What an object answers to later calls is free. */
    private static final int MOST_CALLS = 512;

    private final Random random;
    private final RiverText river = new RiverText();
    private final NaiveRiver naive = new NaiveRiver();
    private final List<String> told = new ArrayList<>();
    private final List<Method> methods;
    private List<String> terms = new ArrayList<>();
    private List<String> reaches = new ArrayList<>();
    private List<String> editors = new ArrayList<>();
    private List<String> towns = new ArrayList<>();
    private boolean failed = false;
    private int calls = 0;
    private int texts = 0;
    private static int goodTexts = 0;
    private static int faults = 0;

    private AgainstNaiveTest(long seed) {
        random = new Random(seed);
        methods = new ArrayList<>();
        for (Method m : RiverText.class.getDeclaredMethods()) {
            if (Modifier.isPublic(m.getModifiers())) {
                methods.add(m);
            }
        }
        methods.sort(Comparator.comparing(Method::getName));
    }

    public static void main(String[] args) {
        int first = args.length > 0 ? Integer.parseInt(args[0]) : 1;
        int runs = args.length > 1 ? Integer.parseInt(args[1]) : RUNS;
        for (int seed = first; seed < first + runs; seed++) {
            AgainstNaiveTest test = new AgainstNaiveTest(seed);
            test.run();
            if (test.failed) {
                System.out.println("run by seed " + seed + ":");
                test.told.forEach(System.out::println);
                System.exit(1);
            }
        }
        System.out.println(runs + " runs alike, " + goodTexts + " texts, " + faults + " faults");
    }

    private void run() {
        for (int i = 0; i < 9 && naive.count(1) == 0; i++) {
            country(0);
        }
        while (calls < MOST_CALLS && !failed) {
            int kind = random.nextInt(100);
            if (kind < 2) {
                country(random.nextInt(2));
            } else if (kind < 6) {
                String outer = random.nextInt(8) > 0 ? "" : pick(List.of("not ", "sense or ", "on ra and ")).repeat(5 + random.nextInt(16));
                text(outer + sentence(outer.isEmpty() ? 0 : 9), random.nextInt(4) / 3, 200);
                call("sentence");
            } else if (kind < 12) {
                text(daybook(), random.nextInt(4) / 3, 400);
                call("daybook", random.nextInt(5) == 0 ? 0 : 1);
            } else if (kind < 17) {
                row();
                call(pick(List.of("saying", "saying", "wish", "wish", "most")));
            } else if (kind < 20) {
                call("said", random.nextInt(4) - 1);
            } else {
                callAny();
            }
        }
    }

    private void callAny() {
        Method m = methods.get(random.nextInt(methods.size()));
        if (m.getName().equals("country") && random.nextInt(50) > 0) {
            return;
        }
        call(m.getName());
    }

    private void call(String name, int... given) {
        for (Method m : methods) {
            if (m.getName().equals(name)) {
                Object[] args = new Object[m.getParameterCount()];
                String kinds = kinds(name);
                for (int i = 0; i < args.length; i++) {
                    args[i] = i < given.length ? given[i] : argument(kinds.charAt(i));
                }
                compare(m, args);
                return;
            }
        }
        throw new IllegalStateException(name);
    }

    /** What each argument of a method is: a kind told in argument(). */
    private static String kinds(String name) {
        return switch (name) {
            case "feed" -> "*****";
            case "end" -> "n";
            case "term" -> "w";
            case "reach" -> "r5";
            case "at" -> "rp";
            case "editor" -> "e5";
            case "makes" -> "ew";
            case "town" -> "t6";
            case "now" -> "6";
            case "days", "clashes" -> "d";
            case "wake" -> "e1";
            case "stone" -> "rpw";
            case "well" -> "tD";
            case "sense", "sayings", "above", "source", "saying", "wish" -> "t";
            case "flows" -> "rpt";
            case "comes" -> "tw";
            case "saidAt" -> "5";
            case "rests" -> "dk";
            case "own" -> "e";
            case "liked" -> "tsd";
            case "sure" -> "n";
            case "when" -> "twd";
            case "unlike" -> "ttl";
            case "drawn" -> "d*";
            case "odds" -> "td*";
            case "daybook", "image", "restore" -> "1";
            case "booked" -> "4";
            case "said" -> "k";
            case "count" -> "7";
            default -> "";
        };
    }

    private int argument(char kind) {
        if (random.nextInt(60) == 0) {
            return pickInt(Integer.MIN_VALUE, Integer.MAX_VALUE, -2, 400, 100, 255, -1000);
        }
        return switch (kind) {
            case 'w' -> near(naive.count(0));
            case 'r' -> near(naive.count(1));
            case 'e' -> near(naive.count(2));
            case 't' -> near(naive.count(4));
            case 'p' -> near(4);
            case 'd' -> pickInt(1, 1, 2, 3, 5, 7, 12, 20, 40, 60, 99, 41, 61, 100, 0);
            case 'D' -> near(naive.now(0));
            case 's' -> near(1 << naive.count(2));
            case 'k' -> random.nextInt(4) == 0 ? -1 : random.nextInt(9);
            case 'l' -> pickInt(0, 1, 2, 3, 9, 99, 100, -1);
            case 'n' -> random.nextInt(102) - 1;
            case '1', '4', '5', '6', '7' -> near(kind - '0' + 1);
            default -> random.nextInt();
        };
    }

    /** Mostly from 0 to most less 1, sometimes one beside them. */
    private int near(int most) {
        return random.nextInt(8) == 0 || most == 0 ? pickInt(-1, most) : random.nextInt(most);
    }

    private void compare(Method m, Object[] args) {
        if (calls == MOST_CALLS) {
            return;
        }
        calls++;
        String due;
        try {
            due = answer(naive, NaiveRiver.class.getMethod(m.getName(), m.getParameterTypes()), args);
        } catch (NoSuchMethodException e) {
            throw new IllegalStateException(e);
        }
        String got = answer(river, m, args);
        told.add(m.getName() + Arrays.toString(args) + " = " + got);
        if (!got.equals(due)) {
            told.add("    due is " + due);
            failed = true;
        }
        if (List.of("country", "sentence", "daybook").contains(m.getName())) {
            check("fault");
        }
    }

    private void check(String name) {
        if (!failed) {
            if (naive.fault() == 0) {
                goodTexts++;
            } else {
                faults++;
            }
            call(name);
        }
    }

    private static String answer(Object object, Method m, Object[] args) {
        try {
            return String.valueOf(m.invoke(object, args));
        } catch (InvocationTargetException e) {
            return "throws " + e.getCause().getClass().getName();
        } catch (IllegalAccessException e) {
            throw new IllegalStateException(e);
        }
    }

    private int pickInt(int... of) {
        return of[random.nextInt(of.length)];
    }

    private String pick(List<String> of) {
        return of.isEmpty() ? "zz" : of.get(random.nextInt(of.size()));
    }

    private void bytes(byte[] all) {
        if (naive.count(6) > 0) {
            call("end", 0);
        }
        int n = all.length;
        byte[] padded = Arrays.copyOf(all, (n + 19) / 20 * 20);
        for (int at = 0; at < padded.length; at += 20) {
            int[] five = new int[5];
            for (int i = 0; i < 20; i++) {
                five[i / 4] = five[i / 4] << 8 | padded[at + i] & 255;
            }
            call("feed", five);
        }
        call("end", n);
    }

    private void row() {
        byte[] row = new byte[random.nextInt(30) == 0 ? random.nextInt(120) : 1 + random.nextInt(6)];
        int few = 1 + random.nextInt(5);
        for (int i = 0; i < row.length; i++) {
            int kind = random.nextInt(40);
            row[i] = (byte) (kind == 0 ? random.nextInt(256) : kind < 5 ? 255 : random.nextInt(few));
        }
        bytes(row);
    }

    /** Lays a text on the tape, with some TOKENS spoilt, and sometimes longer than it may be. */
    private void text(String plain, int spoilt, int most) {
        List<String> tokens = new ArrayList<>(List.of(plain.trim().split(" +")));
        for (int i = 0; i < spoilt; i++) {
            spoil(tokens);
        }
        StringBuilder b = new StringBuilder();
        boolean wide = random.nextInt(12) == 0;
        for (String token : tokens) {
            boolean joins = b.length() > 0 && isRun(b.charAt(b.length() - 1)) && isRun(token.charAt(0));
            int blanks = random.nextInt(200) == 0 ? 0 : joins ? 1 : random.nextInt(2);
            for (int k = 0; k < blanks + (wide ? random.nextInt(4) : 0); k++) {
                b.append(random.nextInt(5) == 0 ? '\n' : ' ');
            }
            b.append(token);
        }
        if (random.nextInt(15) == 0) {
            while (b.length() < most - 6 + random.nextInt(9)) {
                b.insert(random.nextInt(2) == 0 ? 0 : b.length(), ' ');
            }
            b.append(pick(List.of("", " ", ";", " noun xy;", "abcdefgh", "and sense", "   ")));
        }
        texts++;
        told.add("text " + texts + ": " + b);
        byte[] all = b.toString().getBytes(StandardCharsets.ISO_8859_1);
        bytes(Arrays.copyOf(all, Math.min(all.length, 940)));
    }

    private static boolean isRun(char c) {
        return c >= 'a' && c <= 'z' || c >= '0' && c <= '9';
    }

    private void spoil(List<String> tokens) {
        int at = random.nextInt(tokens.size());
        String other = random.nextInt(2) == 0 ? tokens.get(random.nextInt(tokens.size()))
                : pick(List.of("noun", "reach", "into", "says", "strike", "turn", "zz", "q", "0", "9", "10", "999",
                        "1234", "a1", "1a", "abcdefgh", ";", "(", ")", ".", "<", "A", "\t", "not", "and", "none",
                        "reads", "wakes", "day", "sense"));
        switch (random.nextInt(4)) {
            case 0 -> tokens.remove(at);
            case 1 -> tokens.add(at, other);
            case 2 -> tokens.set(at, other);
            default -> Collections.swap(tokens, at, random.nextInt(tokens.size()));
        }
        if (tokens.isEmpty()) {
            tokens.add(";");
        }
    }

    private String fresh(String letter, int number) {
        return letter + (char) ('a' + number);
    }

    private void country(int spoilt) {
        List<List<String>> before = List.of(terms, reaches, editors, towns);
        terms = new ArrayList<>();
        reaches = new ArrayList<>();
        editors = new ArrayList<>();
        towns = new ArrayList<>();
        StringBuilder b = new StringBuilder();
        boolean sensible = random.nextBoolean();
        boolean crowded = random.nextInt(8) == 0;
        int most = crowded ? 6 + random.nextInt(6) : random.nextInt(9);
        for (int i = 0; i < (sensible ? 4 + random.nextInt(4) : most); i++) {
            String sort = i < 4 && sensible ? List.of("noun", "verb", "like", "stop").get(i)
                    : pick(List.of("noun", "verb", "like", "stop"));
            terms.add(fresh("w", i));
            b.append(sort).append(' ').append(fresh("w", i)).append(" ; ");
        }
        int[] lengths = new int[12];
        boolean chain = random.nextInt(3) == 0;
        boolean[] fed = new boolean[12];
        int reachCount = 1 + random.nextInt(crowded ? 8 : 6);
        for (int i = 0; i < reachCount; i++) {
            lengths[i] = random.nextInt(40) == 0 ? random.nextInt(11) : 1 + random.nextInt(4);
            b.append("reach ").append(fresh("r", i)).append(' ').append(lengths[i]);
            if (i > 0 && (chain || random.nextInt(5) > 0)) {
                int to = chain ? i - 1 : random.nextInt(i);
                b.append(" into ").append(fresh("r", to));
                fed[to] = true;
            }
            reaches.add(fresh("r", i));
            b.append(" ; ");
        }
        for (int i = 0; i < reachCount; i++) {
            if (!terms.isEmpty() && (!fed[i] && random.nextInt(6) > 0 || random.nextInt(200) == 0)) {
                b.append("says ").append(fresh("r", i));
                int n = random.nextInt(30) == 0 ? 13 : 1 + random.nextInt(7);
                boolean ordered = sensible && random.nextBoolean();
                List<String> saying = random.nextBoolean() ? List.of("wa", "wb", "wd") : List.of("wc", "wa", "wb", "wd");
                for (int k = 0; k < n; k++) {
                    b.append(' ').append(ordered ? saying.get(k % saying.size()) : pick(terms));
                }
                b.append(" ; ");
            }
        }
        people(b, lengths, crowded);
        text(b.toString(), spoilt, 900);
        call("country");
        if (naive.fault() != 0) {
            terms = before.get(0);
            reaches = before.get(1);
            editors = before.get(2);
            towns = before.get(3);
        }
    }

    private void people(StringBuilder b, int[] lengths, boolean crowded) {
        Set<String> used = new HashSet<>();
        int many = random.nextInt(crowded ? 8 : 5);
        for (int i = 0; i < many; i++) {
            String spot = spot(lengths);
            if (isNew(used, spot)) {
                editors.add(fresh("e", i));
                b.append("editor ").append(fresh("e", i)).append(spot);
            }
        }
        int changes = editors.isEmpty() || terms.isEmpty() ? 0 : random.nextInt(crowded ? 23 : 9);
        for (int i = 0; i < changes; i++) {
            String two = " " + pick(editors) + " " + pick(terms);
            String becomes = random.nextInt(3) == 0 ? "" : " " + pick(terms);
            boolean toItself = two.endsWith(becomes) && !becomes.isEmpty() && random.nextInt(30) > 0;
            if (!toItself && isNew(used, two)) {
                b.append(becomes.isEmpty() ? "strike" : "turn").append(two).append(becomes).append(" ; ");
            }
        }
        int homes = random.nextInt(crowded ? 8 : 7);
        for (int i = 0; i < homes; i++) {
            towns.add(fresh("t", i));
            b.append("town ").append(fresh("t", i)).append(spot(lengths));
        }
        int tastes = towns.isEmpty() || terms.isEmpty() ? 0 : random.nextInt(crowded ? 15 : 9);
        for (int i = 0; i < tastes; i++) {
            String two = " " + pick(towns) + " " + pick(terms);
            if (isNew(used, two)) {
                b.append("taste").append(two).append(" ; ");
            }
        }
    }

    private String spot(int[] lengths) {
        int r = random.nextInt(reaches.size());
        return " " + reaches.get(r) + " " + random.nextInt(Math.max(1, lengths[r])) + " ; ";
    }

    /** Mostly what is not used yet, so that most texts have no FAULT. */
    private boolean isNew(Set<String> used, String what) {
        return used.add(what) || random.nextInt(100) == 0;
    }

    private String sentence(int depth) {
        switch (random.nextInt(depth > 2 + random.nextInt(6) ? 7 : 12)) {
            case 0: return "reads " + pick(terms);
            case 1: return "on " + pick(reaches);
            case 2: return "sense";
            case 3: return "at " + pick(List.of("<", "=", ">")) + " " + random.nextInt(4);
            case 4: return "words " + pick(List.of("<", "=", ">")) + " " + random.nextInt(30);
            case 5: return "liked " + pick(List.of("<", "=", ">")) + " " + random.nextInt(10);
            case 6: return "number " + pick(List.of("<", "=", ">")) + " " + random.nextInt(6);
            case 7: return "not " + sentence(depth + 1);
            case 8: return "( " + sentence(depth + 1) + " )";
            case 9: return sentence(depth + 1) + " and " + sentence(depth + 1);
            default: return sentence(depth + 1) + " or " + sentence(depth + 1);
        }
    }

    private String daybook() {
        StringBuilder b = new StringBuilder();
        int lines = random.nextInt(20) == 0 ? 33 : random.nextInt(7);
        for (int i = 0; i < lines; i++) {
            int kind = random.nextInt(lines > 20 ? 1 : 3);
            if (kind == 0) {
                b.append("day ").append(pickInt(1, 1, 1, 2, 3, 5)).append(" ; ");
            } else if (kind == 1 && !towns.isEmpty()) {
                int town = random.nextInt(towns.size());
                b.append(towns.get(town)).append(" reads ").append(likelyRead(town)).append(" ; ");
            } else if (!editors.isEmpty()) {
                int e = random.nextInt(editors.size());
                boolean awake = naive.editor(e, 2) == 1;
                boolean right = random.nextInt(4) > 0;
                b.append(editors.get(e)).append(awake == right ? " sleeps" : " wakes").append(" ; ");
            }
        }
        return b.length() == 0 ? ";" : b.toString();
    }

    private String likelyRead(int town) {
        if (random.nextInt(3) == 0) {
            return random.nextBoolean() ? "none" : pick(terms);
        }
        int term = town < naive.count(4) ? naive.town(town, 2) : RiverText.NONE;
        return term >= 0 && term < terms.size() ? terms.get(term) : "none";
    }
}
