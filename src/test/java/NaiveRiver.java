import java.nio.charset.StandardCharsets;
import java.util.ArrayDeque;
import java.util.ArrayList;
import java.util.Arrays;
import java.util.Deque;
import java.util.HashMap;
import java.util.HashSet;
import java.util.List;
import java.util.Map;
import java.util.NoSuchElementException;
import java.util.Set;
import java.util.function.IntPredicate;
import java.util.regex.Matcher;
import java.util.regex.Pattern;

/**
 * The document told a second time, slowly and by other means (rows that are shifted, patterns, copies of all),
 * so that the class can be compared with it.
 */
public final class NaiveRiver {
    private static final Set<String> KEYWORDS = Set.of(
            "noun", "verb", "like", "stop", "reach", "into", "says", "editor", "strike", "turn", "town", "taste",
            "day", "reads", "none", "wakes", "sleeps",
            "or", "and", "not", "on", "sense", "at", "words", "liked", "number");
    private static final Pattern SAYINGS = Pattern.compile("(l*nv(l*n)?s)*");
    private static final String SORTS = "nvls";

    static final class Fault extends Exception {
        private static final long serialVersionUID = 1L;
        final int kind;
        final int place;

        Fault(int kind, int place) {
            super(null, null, false, false);
            this.kind = kind;
            this.place = place;
        }
    }

    record Token(String text, int place) {
        boolean isWord() {
            return text.matches("[a-z]{1,7}");
        }

        boolean isName() {
            return isWord() && !KEYWORDS.contains(text);
        }

        boolean isNumber() {
            return text.matches("[0-9]{1,3}");
        }
    }

    static final class Text {
        final List<Token> tokens = new ArrayList<>();
        int next = 0;

        Text(byte[] bytes, int length, int limit) {
            String all = new String(bytes, 0, length, StandardCharsets.ISO_8859_1);
            Matcher m = Pattern.compile("[a-z0-9]+|[^ \n]").matcher(all);
            while (m.find()) {
                if (m.start() < limit) {
                    tokens.add(new Token(m.group(), m.start()));
                }
            }
            // what can't come stands for the end, so that each reader trips over it at its place
            tokens.add(new Token(length > limit ? "OVER" : "", Math.min(length, limit)));
        }

        Token peek() {
            return tokens.get(next);
        }

        boolean isEnd() {
            return peek().text().isEmpty();
        }

        Token take() {
            Token token = peek();
            if (next < tokens.size() - 1) {
                next++;
            }
            return token;
        }

        boolean is(String text) {
            return peek().text().equals(text);
        }

        Token want(String... texts) throws Fault {
            for (String text : texts) {
                if (is(text)) {
                    return take();
                }
            }
            throw new Fault(1, peek().place());
        }

        String newName(Land land) throws Fault {
            Token token = take();
            if (!token.isName()) {
                throw new Fault(1, token.place());
            }
            if (land.names.containsKey(token.text())) {
                throw new Fault(3, token.place());
            }
            return token.text();
        }

        int told(Land land, String sort) throws Fault {
            Token token = take();
            if (!token.isName()) {
                throw new Fault(1, token.place());
            }
            Name name = land.names.get(token.text());
            if (name == null || !name.sort().equals(sort)) {
                throw new Fault(3, token.place());
            }
            return name.number();
        }

        int number(int low, int high) throws Fault {
            Token token = take();
            if (!token.isNumber()) {
                throw new Fault(1, token.place());
            }
            int value = Integer.parseInt(token.text());
            if (value < low || value > high) {
                throw new Fault(2, token.place());
            }
            return value;
        }

        int lastPlace() {
            return tokens.get(next - 1).place();
        }
    }

    record Name(String sort, int number) { }

    record Spot(int reach, int at) { }

    static final class Reach {
        int length;
        int into;
        List<Integer> says = new ArrayList<>();
    }

    static final class Land {
        final Map<String, Name> names = new HashMap<>();
        final List<Integer> sorts = new ArrayList<>();
        final List<Reach> reaches = new ArrayList<>();
        final List<Spot> editors = new ArrayList<>();
        final Map<List<Integer>, Integer> changes = new HashMap<>();
        final List<Spot> towns = new ArrayList<>();
        final Set<List<Integer>> tastes = new HashSet<>();
        int lines = 0;

        void tell(String name, String sort, int number) {
            names.put(name, new Name(sort, number));
        }

        int inflows(int r) {
            return (int) reaches.stream().filter(q -> q.into == r).count();
        }

        int makes(int e, int t) {
            return changes.getOrDefault(List.of(e, t), t);
        }
    }

    static final class State {
        int day = 0;
        int[][] water;
        boolean[] awake;
        int[] struck;
        int[] turned;
        int clashes = 0;
        int sea = 0;
        List<int[]> reads = new ArrayList<>();

        State(Land land) {
            water = new int[land.reaches.size()][];
            for (int r = 0; r < water.length; r++) {
                water[r] = new int[land.reaches.get(r).length];
                Arrays.fill(water[r], -1);
            }
            awake = new boolean[land.editors.size()];
            Arrays.fill(awake, true);
            struck = new int[awake.length];
            turned = new int[awake.length];
        }

        State(State other) {
            day = other.day;
            water = new int[other.water.length][];
            for (int r = 0; r < water.length; r++) {
                water[r] = other.water[r].clone();
            }
            awake = other.awake.clone();
            struck = other.struck.clone();
            turned = other.turned.clone();
            clashes = other.clashes;
            sea = other.sea;
            reads = new ArrayList<>(other.reads);
        }

        int last(int town) {
            return day == 0 ? -1 : reads.get(day - 1)[town];
        }
    }

    interface Saying {
        boolean holds(Land land, State state, int town);
    }

    record Kept(Land land, State state, Saying saying) { }

    private final byte[] tape = new byte[940];
    private int length = 0;
    private Land land = new Land();
    private State state = new State(land);
    private Saying saying = null;
    private final Deque<State> acts = new ArrayDeque<>();
    private final Kept[] images = new Kept[2];
    private int faultKind = 0;
    private List<Integer> firstWay = List.of();
    private int stones = -1;
    private int[] booked = null;
    private int ones;

    public int feed(int a, int b, int c, int d, int e) {
        if (length > 920) {
            return -1;
        }
        for (int v : new int[] {a, b, c, d, e}) {
            for (int i = 3; i >= 0; i--) {
                tape[length++] = (byte) (v >> (8 * i));
            }
        }
        return length;
    }

    public boolean end(int n) {
        if (n < 0 || n > length) {
            return false;
        }
        length = n;
        return true;
    }

    public int country() {
        Text text = new Text(tape, length, 900);
        length = 0;
        try {
            Land fresh = readCountry(text);
            faultKind = 0;
            land = fresh;
            state = new State(land);
            saying = null;
            acts.clear();
            return fresh.lines;
        } catch (Fault f) {
            faultKind = f.kind;
            return -1 - f.place;
        }
    }

    private static Land readCountry(Text text) throws Fault {
        Land l = new Land();
        while (!text.isEnd()) {
            Token first = text.want("noun", "verb", "like", "stop", "reach", "says", "editor", "strike", "turn",
                    "town", "taste");
            String what = first.text();
            boolean full = switch (what) {
                case "noun", "verb", "like", "stop" -> l.sorts.size() == 10;
                case "reach" -> l.reaches.size() == 8;
                case "editor" -> l.editors.size() == 6;
                case "strike", "turn" -> l.changes.size() == 20;
                case "town" -> l.towns.size() == 6;
                case "taste" -> l.tastes.size() == 12;
                default -> false;
            };
            if (full) {
                throw new Fault(4, first.place());
            }
            switch (what) {
                case "reach" -> readReach(text, l);
                case "says" -> readSays(text, l);
                case "editor", "town" -> readSpot(text, l, what);
                case "strike", "turn" -> readChange(text, l, what);
                case "taste" -> readTaste(text, l);
                default -> {
                    l.tell(text.newName(l), "term", l.sorts.size());
                    l.sorts.add(List.of("noun", "verb", "like", "stop").indexOf(what));
                }
            }
            text.want(";");
            l.lines++;
        }
        return l;
    }

    private static void readReach(Text text, Land l) throws Fault {
        String name = text.newName(l);
        Reach reach = new Reach();
        reach.length = text.number(1, 9);
        reach.into = -1;
        if (text.is("into")) {
            text.take();
            reach.into = text.told(l, "reach");
            if (!l.reaches.get(reach.into).says.isEmpty()) {
                throw new Fault(3, text.lastPlace());
            }
        }
        l.tell(name, "reach", l.reaches.size());
        l.reaches.add(reach);
    }

    private static void readSays(Text text, Land l) throws Fault {
        int r = text.told(l, "reach");
        if (l.inflows(r) > 0 || !l.reaches.get(r).says.isEmpty()) {
            throw new Fault(3, text.lastPlace());
        }
        do {
            int term = text.told(l, "term");
            if (l.reaches.get(r).says.size() == 12) {
                throw new Fault(4, text.lastPlace());
            }
            l.reaches.get(r).says.add(term);
        } while (!text.is(";"));
    }

    private static void readSpot(Text text, Land l, String what) throws Fault {
        String name = text.newName(l);
        int r = text.told(l, "reach");
        Spot spot = new Spot(r, text.number(0, l.reaches.get(r).length - 1));
        List<Spot> all = what.equals("town") ? l.towns : l.editors;
        if (all == l.editors && all.contains(spot)) {
            throw new Fault(3, text.lastPlace());
        }
        l.tell(name, what, all.size());
        all.add(spot);
    }

    private static void readChange(Text text, Land l, String what) throws Fault {
        int e = text.told(l, "editor");
        int t = text.told(l, "term");
        if (l.changes.containsKey(List.of(e, t))) {
            throw new Fault(3, text.lastPlace());
        }
        int to = -1;
        if (what.equals("turn")) {
            to = text.told(l, "term");
            if (to == t) {
                throw new Fault(3, text.lastPlace());
            }
        }
        l.changes.put(List.of(e, t), to);
    }

    private static void readTaste(Text text, Land l) throws Fault {
        int t = text.told(l, "town");
        int term = text.told(l, "term");
        if (!l.tastes.add(List.of(t, term))) {
            throw new Fault(3, text.lastPlace());
        }
    }

    public int fault() {
        return faultKind;
    }

    private boolean isTerm(int t) {
        return t >= 0 && t < land.sorts.size();
    }

    private boolean isReach(int r) {
        return r >= 0 && r < land.reaches.size();
    }

    private boolean isPlace(int r, int p) {
        return isReach(r) && p >= 0 && p < land.reaches.get(r).length;
    }

    private boolean isEditor(int e) {
        return e >= 0 && e < land.editors.size();
    }

    private boolean isTown(int t) {
        return t >= 0 && t < land.towns.size();
    }

    public int term(int t) {
        return isTerm(t) ? land.sorts.get(t) : -1;
    }

    public int reach(int r, int what) {
        if (!isReach(r)) {
            return -1;
        }
        Reach reach = land.reaches.get(r);
        return switch (what) {
            case 0 -> reach.length;
            case 1 -> reach.into;
            case 2 -> land.inflows(r);
            case 3 -> reach.says.size();
            case 4 -> reach.says.isEmpty() ? -1 : reach.says.get(state.day % reach.says.size());
            default -> -1;
        };
    }

    public int at(int r, int place) {
        if (!isPlace(r, place)) {
            throw new NoSuchElementException();
        }
        return state.water[r][place];
    }

    public int editor(int e, int what) {
        if (!isEditor(e)) {
            return -1;
        }
        return switch (what) {
            case 0 -> land.editors.get(e).reach();
            case 1 -> land.editors.get(e).at();
            case 2 -> state.awake[e] ? 1 : 0;
            case 3 -> state.struck[e];
            case 4 -> state.turned[e];
            default -> -1;
        };
    }

    public int makes(int e, int t) {
        return isEditor(e) && isTerm(t) ? land.makes(e, t) : -2;
    }

    private int countReads(State s, int town, IntPredicate which) {
        int n = 0;
        for (int d = 0; d < s.day; d++) {
            int term = s.reads.get(d)[town];
            if (term != -1 && which.test(term)) {
                n++;
            }
        }
        return n;
    }

    private int likedIn(State s, int town) {
        return countReads(s, town, x -> land.tastes.contains(List.of(town, x)));
    }

    public int town(int t, int what) {
        if (!isTown(t) || what < 0 || what > 5) {
            throw new NoSuchElementException();
        }
        if (what == 5) {
            for (int d = 0; d < state.day; d++) {
                if (state.reads.get(d)[t] != -1) {
                    return d;
                }
            }
            return -1;
        }
        return switch (what) {
            case 0 -> land.towns.get(t).reach();
            case 1 -> land.towns.get(t).at();
            case 2 -> state.last(t);
            case 3 -> countReads(state, t, x -> true);
            default -> likedIn(state, t);
        };
    }

    public int now(int what) {
        return switch (what) {
            case 0 -> state.day;
            case 1 -> (int) Arrays.stream(state.water).flatMapToInt(Arrays::stream).filter(x -> x != -1).count();
            case 2 -> state.clashes;
            case 3 -> state.sea;
            case 4 -> Arrays.stream(state.struck).sum();
            case 5 -> Arrays.stream(state.turned).sum();
            default -> -1;
        };
    }

    private void day(State s) {
        int n = land.reaches.size();
        int[] out = new int[n];
        for (int r = 0; r < n; r++) {
            int[] w = s.water[r];
            out[r] = w[w.length - 1];
            System.arraycopy(w, 0, w, 1, w.length - 1);
            List<Integer> says = land.reaches.get(r).says;
            w[0] = says.isEmpty() ? -1 : says.get(s.day % says.size());
        }
        for (int target = -1; target < n; target++) {
            int stays = -1;
            for (int r = 0; r < n; r++) {
                if (land.reaches.get(r).into != target || out[r] == -1) {
                    continue;
                }
                if (target == -1) {
                    s.sea++;
                } else if (stays == -1) {
                    stays = out[r];
                    s.water[target][0] = stays;
                } else if (stays != out[r]) {
                    s.clashes++;
                }
            }
        }
        for (int e = 0; e < s.awake.length; e++) {
            Spot spot = land.editors.get(e);
            int there = s.water[spot.reach()][spot.at()];
            if (s.awake[e] && there != -1) {
                int becomes = land.makes(e, there);
                s.water[spot.reach()][spot.at()] = becomes;
                if (becomes == -1) {
                    s.struck[e]++;
                } else if (becomes != there) {
                    s.turned[e]++;
                }
            }
        }
        int[] row = new int[land.towns.size()];
        for (int t = 0; t < row.length; t++) {
            row[t] = s.water[land.towns.get(t).reach()][land.towns.get(t).at()];
        }
        while (s.reads.size() > s.day) {
            s.reads.remove(s.reads.size() - 1);
        }
        s.reads.add(row);
        s.day++;
    }

    private void keep(State before) {
        acts.addLast(new State(before));
        if (acts.size() > 4) {
            acts.removeFirst();
        }
    }

    public int days(int n) {
        if (n < 1 || n > 99) {
            return -1;
        }
        State before = new State(state);
        int went = 0;
        while (went < n && state.day < 400) {
            day(state);
            went++;
        }
        if (went > 0) {
            keep(before);
        }
        return went;
    }

    public boolean wake(int e, int awake) {
        if (!isEditor(e) || (awake != 0 && awake != 1) || state.awake[e] == (awake == 1)) {
            return false;
        }
        keep(state);
        state.awake[e] = awake == 1;
        return true;
    }

    public boolean stone(int r, int place, int t) {
        if (!isPlace(r, place) || (t != -1 && !isTerm(t)) || state.water[r][place] == t) {
            return false;
        }
        keep(state);
        state.water[r][place] = t;
        return true;
    }

    public int undo() {
        if (acts.isEmpty()) {
            return -1;
        }
        state = acts.removeLast();
        return acts.size();
    }

    public int well(int t, int day) {
        return isTown(t) && day >= 0 && day < state.day ? state.reads.get(day)[t] : -2;
    }

    private String readSorts(State s, int town, int days) {
        StringBuilder b = new StringBuilder();
        for (int d = 0; d < days; d++) {
            int term = s.reads.get(d)[town];
            if (term != -1) {
                b.append(SORTS.charAt(land.sorts.get(term)));
            }
        }
        return b.toString();
    }

    private static boolean canBeSense(String sorts) {
        Matcher m = SAYINGS.matcher(sorts);
        return m.matches() || m.hitEnd();
    }

    private int brokenOn(State s, int t) {
        for (int d = 0; d < s.day; d++) {
            if (!canBeSense(readSorts(s, t, d + 1))) {
                return d;
            }
        }
        return -1;
    }

    public int sense(int t) {
        return isTown(t) ? brokenOn(state, t) : -2;
    }

    public int sayings(int t) {
        if (!isTown(t)) {
            return -1;
        }
        int broken = brokenOn(state, t);
        String sorts = readSorts(state, t, broken == -1 ? state.day : broken);
        return (int) sorts.chars().filter(c -> c == 's').count();
    }

    public int flows(int r, int place, int t) {
        if (!isPlace(r, place) || !isTown(t)) {
            return -1;
        }
        int days = 0;
        int p = place;
        int q = r;
        while (q != -1) {
            if (land.towns.get(t).equals(new Spot(q, p))) {
                return days;
            }
            days++;
            p++;
            if (p == land.reaches.get(q).length) {
                p = 0;
                q = land.reaches.get(q).into;
            }
        }
        return -1;
    }

    public int above(int t) {
        if (!isTown(t)) {
            return -1;
        }
        int bits = 0;
        for (int r = 0; r < land.reaches.size(); r++) {
            if (r == land.towns.get(t).reach() || flows(r, 0, t) != -1) {
                bits |= 1 << r;
            }
        }
        return bits;
    }

    public int source(int t) {
        if (!isTown(t)) {
            return -1;
        }
        int bits = above(t);
        List<Integer> saying = new ArrayList<>();
        for (int r = 0; r < land.reaches.size(); r++) {
            if ((bits & 1 << r) != 0) {
                if (land.inflows(r) > 1) {
                    return -1;
                }
                if (!land.reaches.get(r).says.isEmpty()) {
                    saying.add(r);
                }
            }
        }
        return saying.size() == 1 ? saying.get(0) : -1;
    }

    public int comes(int t, int term) {
        int q = source(t);
        if (q == -1 || !isTerm(term)) {
            return -2;
        }
        int p = 0;
        int left = term;
        while (true) {
            int e = land.editors.indexOf(new Spot(q, p));
            if (e != -1 && state.awake[e]) {
                left = land.makes(e, left);
            }
            if (left == -1 || land.towns.get(t).equals(new Spot(q, p))) {
                return left;
            }
            p++;
            if (p == land.reaches.get(q).length) {
                p = 0;
                q = land.reaches.get(q).into;
            }
        }
    }

    /** The row on the tape, null if it is not as told. */
    private int[] row(int most) {
        int n = length;
        length = 0;
        if (n < 1 || n > most) {
            return null;
        }
        int[] row = new int[n];
        for (int i = 0; i < n; i++) {
            row[i] = (tape[i] & 255) == 255 ? -1 : tape[i] & 255;
            if (row[i] != -1 && !isTerm(row[i])) {
                return null;
            }
        }
        return row;
    }

    public long saying(int t) {
        int[] row = row(15);
        if (row == null || source(t) == -1) {
            return -1;
        }
        long ways = 1;
        List<Integer> first = new ArrayList<>();
        for (int wanted : row) {
            List<Integer> can = new ArrayList<>();
            for (int x = 0; x < land.sorts.size(); x++) {
                if (comes(t, x) == wanted) {
                    can.add(x);
                }
            }
            ways *= can.size();
            first.add(can.isEmpty() ? -1 : can.get(0));
        }
        if (ways > 0) {
            firstWay = first;
        }
        return ways;
    }

    public int saidAt(int i) {
        return i >= 0 && i < firstWay.size() ? firstWay.get(i) : -1;
    }

    public int wish(int t) {
        int[] row = row(15);
        if (row == null || source(t) == -1) {
            return -1;
        }
        List<Integer> says = land.reaches.get(source(t)).says;
        int others = 0;
        for (int i = 0; i < row.length; i++) {
            boolean can = false;
            for (int x = 0; x < land.sorts.size(); x++) {
                can |= comes(t, x) == row[i];
            }
            if (!can) {
                return -1;
            }
            others += comes(t, says.get((state.day + i) % says.size())) == row[i] ? 0 : 1;
        }
        return others;
    }

    public int rests(int n, int k) {
        if (n < 1 || n > 60) {
            return -1;
        }
        List<Integer> sets = new ArrayList<>();
        for (int set = 0; set < 1 << land.editors.size(); set++) {
            boolean good = true;
            for (int e = 0; e < land.editors.size(); e++) {
                int t = own(e);
                good &= t == -1 || liked(t, set, n) >= liked(t, set ^ (1 << e), n);
            }
            if (good) {
                sets.add(set);
            }
        }
        return k == -1 ? sets.size() : k >= 0 && k < sets.size() ? sets.get(k) : -1;
    }

    public int own(int e) {
        if (!isEditor(e)) {
            return -1;
        }
        Spot spot = land.editors.get(e);
        for (int p = spot.at(); p < 9; p++) {
            int t = land.towns.indexOf(new Spot(spot.reach(), p));
            if (t != -1) {
                return t;
            }
        }
        return -1;
    }

    public int liked(int t, int set, int n) {
        if (!isTown(t) || set < 0 || set >= 1 << land.editors.size() || n < 1 || n > 60) {
            return -1;
        }
        State s = new State(state);
        for (int e = 0; e < s.awake.length; e++) {
            s.awake[e] = (set & 1 << e) != 0;
        }
        for (int i = 0; i < n && s.day < 400; i++) {
            day(s);
        }
        return likedIn(s, t) - likedIn(state, t);
    }

    public int sure(int k) {
        if (k < 1 || k > 99) {
            return -1;
        }
        int otherwise = 0;
        while (2 * (k - otherwise - 1) > k) {
            otherwise++;
        }
        return otherwise;
    }

    public int most() {
        int[] row = row(99);
        if (row == null) {
            return -2;
        }
        for (int x : row) {
            if (x != -1 && 2 * Arrays.stream(row).filter(y -> y == x).count() > row.length) {
                return x;
            }
        }
        return -1;
    }

    public int when(int t, int term, int n) {
        if (!isTown(t) || !isTerm(term) || n < 1 || n > 99) {
            return -1;
        }
        State s = new State(state);
        for (int i = 0; i < n && s.day < 400; i++) {
            day(s);
            if (s.last(t) == term) {
                return s.day - 1;
            }
        }
        return -1;
    }

    public int clashes(int n) {
        if (n < 1 || n > 99) {
            return -1;
        }
        State s = new State(state);
        for (int i = 0; i < n && s.day < 400; i++) {
            day(s);
        }
        return s.clashes - state.clashes;
    }

    public int unlike(int a, int b, int later) {
        if (!isTown(a) || !isTown(b) || later < 0 || later > 99) {
            return -1;
        }
        int n = 0;
        for (int d = later; d < state.day; d++) {
            n += well(b, d) != well(a, d - later) ? 1 : 0;
        }
        return n;
    }

    /** Lives DAYS drawn by a seed: how many stones. */
    private int draw(State s, int n, int seed) {
        long x = seed;
        int thrown = 0;
        for (int i = 0; i < n && s.day < 400; i++) {
            x = step(x);
            if (pick(x, 4) == 0) {
                x = step(x);
                int r = pick(x, land.reaches.size());
                x = step(x);
                int p = pick(x, land.reaches.get(r).length);
                x = step(x);
                int t = pick(x, land.sorts.size() + 1);
                s.water[r][p] = t == land.sorts.size() ? -1 : t;
                thrown++;
            }
            day(s);
        }
        return thrown;
    }

    private static long step(long x) {
        return (x * 1103515245L + 12345L) & 0xffffffffL;
    }

    private static int pick(long x, int n) {
        return (int) ((x / 256) % n);
    }

    public int drawn(int n, int seed) {
        if (n < 1 || n > 99 || land.reaches.isEmpty()) {
            return -1;
        }
        State before = new State(state);
        stones = draw(state, n, seed);
        int went = state.day - before.day;
        if (went > 0) {
            keep(before);
        }
        return went;
    }

    public int stones() {
        return stones;
    }

    public int odds(int t, int n, int seed) {
        if (!isTown(t) || n < 1 || n > 40) {
            return -1;
        }
        int good = 0;
        for (int i = 0; i < n; i++) {
            State s = new State(state);
            draw(s, 30, seed + i);
            good += canBeSense(readSorts(s, t, s.day)) ? 1 : 0;
        }
        return good;
    }

    record Entry(String verb, int subject, int object) { }

    private List<Entry> readDaybook(Text text) throws Fault {
        List<Entry> entries = new ArrayList<>();
        while (!text.isEnd()) {
            Token first = text.take();
            Name name = land.names.get(first.text());
            if (!first.text().equals("day")) {
                if (!first.isName()) {
                    throw new Fault(1, first.place());
                }
                if (name == null || !Set.of("town", "editor").contains(name.sort())) {
                    throw new Fault(3, first.place());
                }
            }
            if (entries.size() == 30) {
                throw new Fault(4, first.place());
            }
            if (name == null) {
                entries.add(new Entry("day", -1, text.number(1, 99)));
            } else if (name.sort().equals("editor")) {
                entries.add(new Entry(text.want("wakes", "sleeps").text(), name.number(), -1));
            } else {
                text.want("reads");
                int term = -1;
                if (text.is("none")) {
                    text.take();
                } else {
                    term = text.told(land, "term");
                }
                entries.add(new Entry("reads", name.number(), term));
            }
            text.want(";");
        }
        return entries;
    }

    public int daybook(int lives) {
        if (lives != 0 && lives != 1) {
            return -1000;
        }
        Text text = new Text(tape, length, 400);
        length = 0;
        List<Entry> entries;
        try {
            entries = readDaybook(text);
        } catch (Fault f) {
            faultKind = f.kind;
            return -2 - f.place;
        }
        faultKind = 0;
        State s = new State(state);
        int why = 0;
        int ahead = 0;
        for (Entry entry : entries) {
            why = live(s, entry);
            if (why != 0) {
                break;
            }
            ahead++;
        }
        booked = new int[] {why, ahead, s.day, s.clashes - state.clashes};
        if (lives == 1 && ahead > 0) {
            keep(state);
            state = s;
        }
        return why == 0 ? -1 : ahead;
    }

    private int live(State s, Entry entry) {
        switch (entry.verb()) {
            case "day":
                if (s.day + entry.object() > 400) {
                    return 1;
                }
                for (int i = 0; i < entry.object(); i++) {
                    day(s);
                }
                return 0;
            case "reads":
                return s.last(entry.subject()) == entry.object() ? 0 : 2;
            default:
                boolean awake = entry.verb().equals("wakes");
                if (s.awake[entry.subject()] == awake) {
                    return 3;
                }
                s.awake[entry.subject()] = awake;
                return 0;
        }
    }

    public int booked(int what) {
        return booked != null && what >= 0 && what < 4 ? booked[what] : -1;
    }

    public int sentence() {
        Text text = new Text(tape, length, 200);
        length = 0;
        try {
            ones = 0;
            Saying read = cond(text, 1);
            if (!text.isEnd()) {
                throw new Fault(1, text.peek().place());
            }
            faultKind = 0;
            saying = read;
            return ones;
        } catch (Fault f) {
            faultKind = f.kind;
            return -1 - f.place;
        }
    }

    private Saying cond(Text text, int depth) throws Fault {
        Saying left = all(text, depth);
        if (!text.is("or")) {
            return left;
        }
        text.take();
        Saying right = cond(text, depth);
        return (l, s, t) -> left.holds(l, s, t) || right.holds(l, s, t);
    }

    private Saying all(Text text, int depth) throws Fault {
        Saying left = one(text, depth);
        if (!text.is("and")) {
            return left;
        }
        text.take();
        Saying right = all(text, depth);
        return (l, s, t) -> left.holds(l, s, t) && right.holds(l, s, t);
    }

    private Saying one(Text text, int depth) throws Fault {
        Token first = text.want("not", "(", "reads", "on", "sense", "at", "words", "liked", "number");
        ones++;
        if (ones > 20 || depth > 8) {
            throw new Fault(4, first.place());
        }
        switch (first.text()) {
            case "not": {
                Saying inner = one(text, depth + 1);
                return (l, s, t) -> !inner.holds(l, s, t);
            }
            case "(": {
                Saying inner = cond(text, depth + 1);
                text.want(")");
                return inner;
            }
            case "reads": {
                int term = text.told(land, "term");
                return (l, s, t) -> s.last(t) == term;
            }
            case "on": {
                int r = text.told(land, "reach");
                return (l, s, t) -> l.towns.get(t).reach() == r;
            }
            case "sense":
                return (l, s, t) -> brokenOn(s, t) == -1;
            default:
                String sign = text.want("<", "=", ">").text();
                int number = text.number(0, 999);
                return (l, s, t) -> {
                    int measured = switch (first.text()) {
                        case "at" -> l.towns.get(t).at();
                        case "words" -> countReads(s, t, x -> true);
                        case "liked" -> likedIn(s, t);
                        default -> t;
                    };
                    int c = Integer.compare(measured, number);
                    return sign.equals("<") ? c < 0 : sign.equals("=") ? c == 0 : c > 0;
                };
        }
    }

    public int said(int k) {
        if (saying == null) {
            return -1;
        }
        List<Integer> towns = new ArrayList<>();
        for (int t = 0; t < land.towns.size(); t++) {
            if (saying.holds(land, state, t)) {
                towns.add(t);
            }
        }
        return k == -1 ? towns.size() : k >= 0 && k < towns.size() ? towns.get(k) : -1;
    }

    public boolean image(int k) {
        if (k != 0 && k != 1) {
            return false;
        }
        images[k] = new Kept(land, new State(state), saying);
        return true;
    }

    public boolean restore(int k) {
        if ((k != 0 && k != 1) || images[k] == null) {
            return false;
        }
        land = images[k].land();
        state = new State(images[k].state());
        saying = images[k].saying();
        acts.clear();
        return true;
    }

    public int count(int what) {
        return switch (what) {
            case 0 -> land.sorts.size();
            case 1 -> land.reaches.size();
            case 2 -> land.editors.size();
            case 3 -> land.changes.size();
            case 4 -> land.towns.size();
            case 5 -> land.tastes.size();
            case 6 -> length;
            default -> -1;
        };
    }
}
