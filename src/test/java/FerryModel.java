import java.util.ArrayDeque;
import java.util.ArrayList;
import java.util.HashMap;
import java.util.HashSet;
import java.util.LinkedHashMap;
import java.util.List;
import java.util.Map;
import java.util.NoSuchElementException;
import java.util.Set;
import java.util.TreeMap;
import java.util.TreeSet;
import java.util.function.Predicate;

/**
 * The document told a second time, with the Java library and without any care for speed, so that
 * ModelTest can hold LackFerry against it. It has the same face.
 */
public final class FerryModel {
    static final int NONE = -1;
    static final Set<String> WORDS = Set.of("load", "good", "stock", "wants", "eats", "makes", "man", "misses", "hoards",
        "bares", "wastes", "dies", "day", "or", "and", "not", "lacked", "hoarded", "made", "eaten", "false", "near",
        "far", "crossed", "number");

    static final class Fault extends RuntimeException {
        private static final long serialVersionUID = 1L;
        final int kind;
        final int place;

        Fault(int kind, int place) {
            this.kind = kind;
            this.place = place;
        }
    }

    record Token(String text, int place) {
        boolean isName() {
            return text.matches("[a-z]{1,7}") && !WORDS.contains(text);
        }

        boolean isNumber() {
            return text.matches("[0-9]{1,3}");
        }
    }

    /** A text's tokens; "" for the end, null text for what is no token. */
    static final class Text {
        final String all;
        final int most;
        int at;

        Text(String all, int most) {
            this.all = all;
            this.most = most;
        }

        Token peek() {
            int i = at;
            while (i < all.length() && (all.charAt(i) == ' ' || all.charAt(i) == '\n')) {
                i++;
            }
            if (all.length() > most && i >= most) {
                throw new Fault(1, most);
            }
            if (i == all.length()) {
                return new Token("", i);
            }
            int j = i;
            while (j < all.length() && String.valueOf(all.charAt(j)).matches("[a-z0-9]")) {
                j++;
            }
            String run = all.substring(i, Math.max(j, i + 1));
            if (!run.matches("[a-z]{1,7}|[0-9]{1,3}|[;<=>().]")) {
                throw new Fault(1, i);
            }
            return new Token(run, i);
        }

        Token next() {
            Token token = peek();
            at = token.place + token.text.length();
            return token;
        }

        void sign(String due) {
            Token token = next();
            if (!token.text.equals(due)) {
                throw new Fault(1, token.place);
            }
        }

        int number(int least, int most) {
            Token token = next();
            if (!token.isNumber()) {
                throw new Fault(1, token.place);
            }
            int n = Integer.parseInt(token.text);
            if (n < least || n > most) {
                throw new Fault(2, token.place);
            }
            return n;
        }

        Token name() {
            Token token = next();
            if (!token.isName()) {
                throw new Fault(1, token.place);
            }
            return token;
        }
    }

    record Two(int first, int second) {
    }

    static final class Told {
        int load = 10;
        final List<String> goods = new ArrayList<>();
        final List<String> men = new ArrayList<>();
        final List<Integer> shores = new ArrayList<>();
        final Map<String, Map<Two, Integer>> amounts = new HashMap<>();
        final Map<Two, Integer> misses = new LinkedHashMap<>();

        int amount(String sort, int g, int shore) {
            return amounts.getOrDefault(sort, Map.of()).getOrDefault(new Two(g, shore), 0);
        }

        int indexIn(List<String> names, Token token) {
            int index = names.indexOf(token.text);
            if (index < 0) {
                throw new Fault(3, token.place);
            }
            return index;
        }

        void newName(Token token) {
            if (goods.contains(token.text) || men.contains(token.text)) {
                throw new Fault(3, token.place);
            }
        }
    }

    static final class State {
        int day;
        int idle;
        int room;
        final Map<Two, Integer> stock = new TreeMap<>((a, b) -> a.first * 2 + a.second - b.first * 2 - b.second);
        final Map<Two, Integer> hoard = new HashMap<>();
        final Map<Two, Integer> hunger = new HashMap<>();
        final Map<Two, Integer> came = new HashMap<>();
        final Map<Integer, Integer> where = new TreeMap<>();
        final Map<Integer, Integer> trips = new HashMap<>();
        final Map<Set<Integer>, Integer> apart = new HashMap<>();
        Set<Integer> boarded = new TreeSet<>();
        int[] carried = new int[6];

        State copy() {
            State s = new State();
            s.day = day;
            s.idle = idle;
            s.room = room;
            s.stock.putAll(stock);
            s.hoard.putAll(hoard);
            s.hunger.putAll(hunger);
            s.came.putAll(came);
            s.where.putAll(where);
            s.trips.putAll(trips);
            s.apart.putAll(apart);
            return s;
        }

        int hungerInAll() {
            return hunger.values().stream().mapToInt(n -> n).sum();
        }
    }

    record Kept(Told told, State state, Predicate<Integer> sentence) {
    }

    private Told told = new Told();
    private State state = new State();
    private Predicate<Integer> sentence;
    private String tape = "";
    private int fault;
    private final ArrayDeque<State> past = new ArrayDeque<>();
    private final Map<Integer, Kept> images = new HashMap<>();
    private Map<Two, Integer> prices = new HashMap<>();
    private int[] logged;
    private int ones;

    public int feed(int a, int b, int c, int d, int e) {
        if (tape.length() + 20 > 940) {
            return NONE;
        }
        for (int n : new int[] {a, b, c, d, e}) {
            for (int k = 3; k >= 0; k--) {
                tape += (char) (n >>> 8 * k & 255);
            }
        }
        return tape.length();
    }

    public boolean end(int n) {
        if (n < 0 || n > tape.length()) {
            return false;
        }
        tape = tape.substring(0, n);
        return true;
    }

    private Text take(int most) {
        Text text = new Text(tape, most);
        tape = "";
        return text;
    }

    public int strait() {
        Told made = new Told();
        int lines = 0;
        try {
            Text text = take(900);
            boolean loadTold = false;
            while (!text.peek().text.isEmpty()) {
                Token first = text.next();
                switch (first.text) {
                    case "load" -> {
                        if (loadTold) {
                            throw new Fault(3, first.place);
                        }
                        loadTold = true;
                        made.load = text.number(1, 40);
                    }
                    case "good" -> {
                        if (made.goods.size() == 6) {
                            throw new Fault(4, first.place);
                        }
                        Token name = text.name();
                        made.newName(name);
                        made.goods.add(name.text);
                    }
                    case "man" -> {
                        if (made.men.size() == 8) {
                            throw new Fault(4, first.place);
                        }
                        Token name = text.name();
                        made.newName(name);
                        made.men.add(name.text);
                        made.shores.add(text.number(0, 1));
                    }
                    case "misses" -> {
                        if (made.misses.size() == 20) {
                            throw new Fault(4, first.place);
                        }
                        int m = made.indexIn(made.men, text.name());
                        Token second = text.name();
                        Two two = new Two(m, made.indexIn(made.men, second));
                        if (two.first == two.second || made.misses.containsKey(two)) {
                            throw new Fault(3, second.place);
                        }
                        made.misses.put(two, text.number(0, 60));
                    }
                    case "stock", "wants", "eats", "makes" -> {
                        int g = made.indexIn(made.goods, text.name());
                        int place = text.peek().place;
                        Two where = new Two(g, text.number(0, 1));
                        Map<Two, Integer> sort = made.amounts.computeIfAbsent(first.text, k -> new HashMap<>());
                        if (sort.containsKey(where)) {
                            throw new Fault(3, place);
                        }
                        sort.put(where, text.number(0, first.text.endsWith("k") || first.text.startsWith("w") ? 250 : 20));
                    }
                    default -> throw new Fault(1, first.place);
                }
                text.sign(";");
                lines++;
            }
        } catch (Fault f) {
            fault = f.kind;
            return -1 - f.place;
        }
        fault = 0;
        told = made;
        state = new State();
        for (int g = 0; g < told.goods.size(); g++) {
            for (int shore = 0; shore < 2; shore++) {
                Two two = new Two(g, shore);
                state.stock.put(two, told.amount("stock", g, shore));
                state.hoard.put(two, 0);
                state.hunger.put(two, 0);
                state.came.put(two, 0);
            }
        }
        for (int m = 0; m < told.men.size(); m++) {
            state.where.put(m, told.shores.get(m));
            state.trips.put(m, 0);
            for (int o = 0; o < m; o++) {
                state.apart.put(Set.of(m, o), 0);
            }
        }
        sentence = null;
        past.clear();
        return lines;
    }

    public int fault() {
        return fault;
    }

    private boolean isGood(int g) {
        return g >= 0 && g < told.goods.size();
    }

    private boolean isShore(int shore) {
        return shore == 0 || shore == 1;
    }

    private boolean isMan(int m) {
        return m >= 0 && m < told.men.size();
    }

    private boolean lives(int m) {
        return isMan(m) && state.where.containsKey(m);
    }

    private int lack(State s, int g, int shore) {
        return Math.max(0, told.amount("wants", g, shore) - s.stock.get(new Two(g, shore)));
    }

    private boolean isFalse(int g, int shore) {
        Two two = new Two(g, shore);
        return lack(state, g, shore) > 0 && state.hoard.get(two) >= lack(state, g, shore);
    }

    private boolean misses(State s, int m, int o) {
        Integer due = told.misses.get(new Two(m, o));
        return due != null && s.where.containsKey(m) && s.where.containsKey(o) && !s.where.get(m).equals(s.where.get(o))
            && s.apart.get(Set.of(m, o)) >= due;
    }

    private static int bits(Predicate<Integer> which) {
        int bits = 0;
        for (int k = 0; k < 8; k++) {
            bits |= which.test(k) ? 1 << k : 0;
        }
        return bits;
    }

    public int good(int g, int shore, int what) {
        if (!isGood(g) || !isShore(shore)) {
            return NONE;
        }
        Two two = new Two(g, shore);
        return switch (what) {
            case 0 -> state.stock.get(two);
            case 1 -> state.hoard.get(two);
            case 2 -> told.amount("wants", g, shore);
            case 3 -> told.amount("eats", g, shore);
            case 4 -> told.amount("makes", g, shore);
            case 5 -> lack(state, g, shore);
            case 6 -> isFalse(g, shore) ? 1 : 0;
            case 7 -> state.hunger.get(two);
            default -> NONE;
        };
    }

    public int crossed(int g, int shore) {
        return isGood(g) && isShore(shore) ? state.came.get(new Two(g, shore)) : NONE;
    }

    public int man(int m, int what) {
        if (!isMan(m) || what < 0 || what > 4) {
            throw new NoSuchElementException();
        }
        return switch (what) {
            case 0 -> state.where.getOrDefault(m, NONE);
            case 1 -> bits(o -> misses(state, o, m));
            case 2 -> bits(o -> misses(state, m, o));
            case 3 -> state.trips.get(m);
            default -> lives(m) ? 1 : 0;
        };
    }

    public int apart(int m, int o) {
        return m != o && lives(m) && lives(o) ? state.apart.get(Set.of(m, o)) : NONE;
    }

    public int now(int what) {
        return switch (what) {
            case 0 -> state.day;
            case 1 -> state.day % 2;
            case 2 -> bits(m -> state.where.getOrDefault(m, NONE) == 0);
            case 3 -> bits(m -> state.where.getOrDefault(m, NONE) == 1);
            case 4 -> state.idle;
            case 5 -> state.room;
            case 6 -> state.hungerInAll();
            default -> NONE;
        };
    }

    private int deed(State s, String deed, int g, int shore, int n) {
        Two two = new Two(g, shore);
        int stock = s.stock.get(two);
        int hoard = s.hoard.get(two);
        switch (deed) {
            case "hoards":
                if (stock < n) {
                    return 1;
                }
                s.stock.put(two, stock - n);
                s.hoard.put(two, hoard + n);
                return 0;
            case "bares":
                if (hoard < n) {
                    return 1;
                }
                if (stock + n > 999) {
                    return 2;
                }
                s.stock.put(two, stock + n);
                s.hoard.put(two, hoard - n);
                return 0;
            default:
                if (stock < n) {
                    return 1;
                }
                s.stock.put(two, stock - n);
                return 0;
        }
    }

    private void keep(State before) {
        past.addLast(before);
        if (past.size() > 8) {
            past.removeFirst();
        }
    }

    private int deedNow(String deed, int g, int shore, int n) {
        if (!isGood(g) || !isShore(shore) || n < 1 || n > 250) {
            return NONE;
        }
        State before = state.copy();
        int why = deed(state, deed, g, shore, n);
        if (why == 0) {
            keep(before);
        }
        return why;
    }

    public int hoard(int g, int shore, int n) {
        return deedNow("hoards", g, shore, n);
    }

    public int bare(int g, int shore, int n) {
        return deedNow("bares", g, shore, n);
    }

    public int waste(int g, int shore, int n) {
        return deedNow("wastes", g, shore, n);
    }

    public int die(int m) {
        if (!isMan(m)) {
            return NONE;
        }
        if (!lives(m)) {
            return 1;
        }
        keep(state.copy());
        state.where.remove(m);
        return 0;
    }

    /** Fills boarded and carried with what goes over on the state's day. */
    private void plan(State s) {
        s.boarded = new TreeSet<>();
        s.carried = new int[6];
        if (s.day == 400) {
            return;
        }
        int from = s.day % 2;
        int room = told.load;
        for (int m : s.where.keySet()) {
            if (s.where.get(m) == from && bits(o -> misses(s, o, m)) != 0 && room >= 2) {
                s.boarded.add(m);
                room -= 2;
            }
        }
        for (int g = 0; g < told.goods.size(); g++) {
            int n = Math.min(room, Math.min(s.stock.get(new Two(g, from)), lack(s, g, 1 - from)));
            s.carried[g] = n;
            room -= n;
        }
    }

    private boolean day(State s) {
        if (s.day == 400) {
            return false;
        }
        plan(s);
        int from = s.day % 2;
        int used = 0;
        for (int m : s.boarded) {
            s.where.put(m, 1 - from);
            s.trips.merge(m, 1, Integer::sum);
            used += 2;
        }
        for (int g = 0; g < told.goods.size(); g++) {
            s.stock.merge(new Two(g, from), -s.carried[g], Integer::sum);
            s.stock.merge(new Two(g, 1 - from), s.carried[g], Integer::sum);
            s.came.merge(new Two(g, 1 - from), s.carried[g], Integer::sum);
            used += s.carried[g];
        }
        s.room += used;
        s.idle += used == 0 ? 1 : 0;
        for (Two two : new ArrayList<>(s.stock.keySet())) {
            int n = Math.min(999, s.stock.get(two) + told.amount("makes", two.first, two.second));
            int eaten = told.amount("eats", two.first, two.second);
            s.stock.put(two, n >= eaten ? n - eaten : 0);
            s.hunger.merge(two, n >= eaten ? 0 : eaten - n, Integer::sum);
        }
        for (int m : s.where.keySet()) {
            for (int o : s.where.keySet()) {
                if (o < m) {
                    boolean together = s.where.get(m).equals(s.where.get(o));
                    s.apart.merge(Set.of(m, o), 1, (old, one) -> together ? 0 : old + 1);
                }
            }
        }
        s.day++;
        return true;
    }

    private int days(State s, int n) {
        int passed = 0;
        for (int k = 0; k < n; k++) {
            passed += day(s) ? 1 : 0;
        }
        return passed;
    }

    public int days(int n) {
        if (n < 1 || n > 60) {
            return NONE;
        }
        State before = state.copy();
        int passed = days(state, n);
        if (passed > 0) {
            keep(before);
        }
        return passed;
    }

    public int undo() {
        if (past.isEmpty()) {
            return NONE;
        }
        state = past.removeLast();
        return past.size();
    }

    public int lacks(int shore) {
        return isShore(shore) ? bits(g -> isGood(g) && lack(state, g, shore) > 0) : NONE;
    }

    public int falses(int shore) {
        return isShore(shore) ? bits(g -> isGood(g) && isFalse(g, shore)) : NONE;
    }

    public int going() {
        State s = state.copy();
        plan(s);
        return bits(s.boarded::contains);
    }

    public int goes(int g) {
        State s = state.copy();
        plan(s);
        return isGood(g) ? s.carried[g] : NONE;
    }

    public int crosses(int m) {
        if (!lives(m)) {
            return NONE;
        }
        State s = state.copy();
        for (int k = 0; k < 100 && s.day < 400; k++) {
            day(s);
            if (s.boarded.contains(m)) {
                return s.day - 1;
            }
        }
        return NONE;
    }

    public int comes(int g, int shore) {
        if (!isGood(g) || !isShore(shore)) {
            return NONE;
        }
        State s = state.copy();
        for (int k = 0; k < 100 && s.day < 400; k++) {
            int before = s.came.get(new Two(g, shore));
            day(s);
            if (s.came.get(new Two(g, shore)) > before) {
                return s.day - 1;
            }
        }
        return NONE;
    }

    public int without(int g, int shore, int n, int d) {
        if (!isGood(g) || !isShore(shore) || n < 1 || n > 250 || d < 1 || d > 60) {
            return NONE;
        }
        Two two = new Two(g, shore);
        for (int w = 0; w <= state.stock.get(two); w++) {
            State s = state.copy();
            s.stock.put(two, state.stock.get(two) - w);
            days(s, d);
            if (s.came.get(two) - state.came.get(two) >= n) {
                return w;
            }
        }
        return NONE;
    }

    public int meet(int m, int o) {
        if (m == o || !lives(m) || !lives(o)) {
            return NONE;
        }
        State s = state.copy();
        for (int k = 0; k <= 100; k++) {
            if (s.where.get(m).equals(s.where.get(o))) {
                return k;
            }
            if (!day(s)) {
                return NONE;
            }
        }
        return NONE;
    }

    public int loads(int n) {
        if (n < 1 || n > 60) {
            return NONE;
        }
        State s = state.copy();
        days(s, n);
        return s.room - state.room;
    }

    public int which() {
        String text = tape;
        tape = "";
        if (text.length() < 3 || text.length() > 31 || text.charAt(0) > 1) {
            return NONE;
        }
        int shore = text.charAt(0);
        return bits(g -> {
            boolean fits = isGood(g);
            for (int k = 2; k < text.length() && fits; k++) {
                int n = text.charAt(k - 1) + told.amount("makes", g, shore) - told.amount("eats", g, shore);
                fits = Math.max(0, n) == text.charAt(k);
            }
            return fits;
        });
    }

    public int settles() {
        List<State> run = new ArrayList<>();
        run.add(state.copy());
        for (int k = 0; k < 202; k++) {
            State s = run.get(k).copy();
            if (!day(s)) {
                break;
            }
            run.add(s);
        }
        for (int k = 0; k < 200 && k + 2 < run.size(); k++) {
            State early = run.get(k);
            State late = run.get(k + 2);
            if (early.stock.equals(late.stock) && early.where.equals(late.where)) {
                return early.day;
            }
        }
        return NONE;
    }

    public int hunger(int g, int shore, int n) {
        if (!isGood(g) || !isShore(shore) || n < 1 || n > 60) {
            return NONE;
        }
        State s = state.copy();
        days(s, n);
        return s.hunger.get(new Two(g, shore)) - state.hunger.get(new Two(g, shore));
    }

    public int prices() {
        prices = new HashMap<>();
        state.stock.keySet().forEach(two -> prices.put(two, 5));
        State s = state.copy();
        for (int round = 1; round <= 60; round++) {
            Map<Two, Integer> before = new HashMap<>(prices);
            for (Two two : s.stock.keySet()) {
                int change = Integer.compare(told.amount("wants", two.first, two.second), s.stock.get(two));
                prices.merge(two, change, (old, more) -> Math.max(0, old + more));
            }
            if (before.equals(prices)) {
                return round;
            }
            day(s);
        }
        return 60;
    }

    public int price(int g, int shore) {
        return prices.getOrDefault(new Two(g, shore), NONE);
    }

    public int dearest() {
        int dear = NONE;
        int most = 0;
        for (int m = 0; m < told.men.size(); m++) {
            int n = Integer.bitCount(man(m, 1));
            if (n > most) {
                most = n;
                dear = m;
            }
        }
        return dear;
    }

    public int rats() {
        Set<Integer> missed = new HashSet<>();
        for (Two two : told.misses.keySet()) {
            if (lives(two.first)) {
                missed.add(two.second);
            }
        }
        return bits(m -> lives(m) && !missed.contains(m));
    }

    public int hoarded(int shore) {
        int found = NONE;
        int most = 0;
        for (int g = 0; g < told.goods.size() && isShore(shore); g++) {
            int n = state.hoard.get(new Two(g, shore));
            if (n > most) {
                most = n;
                found = g;
            }
        }
        return found;
    }

    private int drawn(State s, int n, int seed) {
        int[] x = {seed};
        java.util.function.IntUnaryOperator draw = k -> {
            x[0] = x[0] * 1103515245 + 12345;
            return (x[0] >>> 8) % k;
        };
        int passed = 0;
        while (passed < n && s.day < 400) {
            int which = draw.applyAsInt(6);
            if (which < 3) {
                int g = draw.applyAsInt(told.goods.size());
                int shore = draw.applyAsInt(2);
                int much = draw.applyAsInt(20) + 1;
                deed(s, List.of("hoards", "bares", "wastes").get(which), g, shore, much);
            }
            if (draw.applyAsInt(90) == 0 && !told.men.isEmpty()) {
                s.where.remove(draw.applyAsInt(told.men.size()));
            }
            day(s);
            passed++;
        }
        return passed;
    }

    public int drawn(int n, int seed) {
        if (n < 1 || n > 60 || told.goods.isEmpty()) {
            return NONE;
        }
        State before = state.copy();
        int passed = drawn(state, n, seed);
        if (passed > 0) {
            keep(before);
        }
        return passed;
    }

    public int odds(int m, int n, int seed) {
        if (!isMan(m) || n < 1 || n > 30 || told.goods.isEmpty()) {
            return NONE;
        }
        int found = 0;
        for (int k = 0; k < n; k++) {
            State s = state.copy();
            drawn(s, 20, seed + k);
            found += s.trips.get(m).equals(state.trips.get(m)) ? 0 : 1;
        }
        return found;
    }

    record Line(String deed, int whom, int shore, int n) {
    }

    private List<Line> readLog(Text text) {
        List<Line> lines = new ArrayList<>();
        while (!text.peek().text.isEmpty()) {
            Token first = text.next();
            boolean isDeed = Set.of("hoards", "bares", "wastes").contains(first.text);
            boolean isDay = first.text.equals("day");
            if (!isDeed && !isDay && !first.isName()) {
                throw new Fault(1, first.place);
            }
            int man = first.isName() ? told.indexIn(told.men, first) : NONE;
            if (lines.size() == 40) {
                throw new Fault(4, first.place);
            }
            if (isDeed) {
                int g = told.indexIn(told.goods, text.name());
                int shore = text.number(0, 1);
                lines.add(new Line(first.text, g, shore, text.number(1, 250)));
            } else if (isDay) {
                lines.add(new Line("day", 0, 0, text.number(1, 60)));
            } else {
                text.sign("dies");
                lines.add(new Line("dies", man, 0, 0));
            }
            text.sign(";");
        }
        return lines;
    }

    private int why(State s, Line line) {
        switch (line.deed) {
            case "day":
                if (s.day + line.n > 400) {
                    return 41;
                }
                days(s, line.n);
                return 0;
            case "dies":
                return s.where.remove(line.whom) == null ? 31 : 0;
            default:
                int why = deed(s, line.deed, line.whom, line.shore, line.n);
                int tens = line.deed.equals("hoards") ? 0 : line.deed.equals("bares") ? 10 : 20;
                return why == 0 ? 0 : tens + why;
        }
    }

    public int log(int lives) {
        if (lives != 0 && lives != 1) {
            return -1000;
        }
        List<Line> lines;
        try {
            lines = readLog(take(400));
        } catch (Fault f) {
            fault = f.kind;
            return -2 - f.place;
        }
        fault = 0;
        State s = state.copy();
        int good = 0;
        int why = 0;
        while (good < lines.size() && why == 0) {
            why = why(s, lines.get(good));
            good += why == 0 ? 1 : 0;
        }
        logged = new int[] {why, good, s.day, s.hungerInAll() - state.hungerInAll()};
        if (lives == 1 && good > 0) {
            keep(state);
            state = s;
        }
        return why == 0 ? NONE : good;
    }

    public int logged(int what) {
        return logged == null || what < 0 || what > 3 ? NONE : logged[what];
    }

    private Predicate<Integer> cond(Text text, int within) {
        Predicate<Integer> whole = all(text, within);
        while (text.peek().text.equals("or")) {
            text.next();
            whole = whole.or(all(text, within));
        }
        return whole;
    }

    private Predicate<Integer> all(Text text, int within) {
        Predicate<Integer> whole = one(text, within);
        while (text.peek().text.equals("and")) {
            text.next();
            whole = whole.and(one(text, within));
        }
        return whole;
    }

    private Predicate<Integer> one(Text text, int within) {
        Token first = text.next();
        if (!Set.of("not", "(", "lacked", "hoarded", "made", "eaten", "false", "near", "far", "crossed", "number")
            .contains(first.text)) {
            throw new Fault(1, first.place);
        }
        if (ones == 20 || within == 9) {
            throw new Fault(4, first.place);
        }
        ones++;
        switch (first.text) {
            case "not":
                return one(text, within + 1).negate();
            case "(":
                Predicate<Integer> inner = cond(text, within + 1);
                text.sign(")");
                return inner;
            case "near", "far", "crossed", "number":
                Token sign = text.next();
                if (!Set.of("<", "=", ">").contains(sign.text)) {
                    throw new Fault(1, sign.place);
                }
                int n = text.number(0, 999);
                return g -> {
                    int value = switch (first.text) {
                        case "near" -> good(g, 0, 0);
                        case "far" -> good(g, 1, 0);
                        case "crossed" -> crossed(g, 0) + crossed(g, 1);
                        default -> g;
                    };
                    return sign.text.equals("<") ? value < n : sign.text.equals(">") ? value > n : value == n;
                };
            default:
                int shore = text.number(0, 1);
                return g -> switch (first.text) {
                    case "lacked" -> good(g, shore, 5) > 0;
                    case "hoarded" -> good(g, shore, 1) > 0;
                    case "made" -> good(g, shore, 4) > 0;
                    case "eaten" -> good(g, shore, 3) > 0;
                    default -> good(g, shore, 6) == 1;
                };
        }
    }

    public int sentence() {
        ones = 0;
        try {
            Text text = take(200);
            Predicate<Integer> made = cond(text, 1);
            Token last = text.peek();
            if (!last.text.isEmpty()) {
                throw new Fault(1, last.place);
            }
            sentence = made;
        } catch (Fault f) {
            fault = f.kind;
            return -1 - f.place;
        }
        fault = 0;
        return ones;
    }

    public int said(int k) {
        if (sentence == null) {
            return NONE;
        }
        List<Integer> found = new ArrayList<>();
        for (int g = 0; g < told.goods.size(); g++) {
            if (sentence.test(g)) {
                found.add(g);
            }
        }
        return k == NONE ? found.size() : k >= 0 && k < found.size() ? found.get(k) : NONE;
    }

    public boolean image(int k) {
        if (k != 0 && k != 1) {
            return false;
        }
        images.put(k, new Kept(told, state.copy(), sentence));
        return true;
    }

    public boolean restore(int k) {
        Kept kept = images.get(k);
        if (kept == null) {
            return false;
        }
        told = kept.told;
        state = kept.state.copy();
        sentence = kept.sentence;
        past.clear();
        return true;
    }

    public int count(int what) {
        return switch (what) {
            case 0 -> told.goods.size();
            case 1 -> told.men.size();
            case 2 -> told.load;
            case 3 -> told.misses.size();
            case 4 -> tape.length();
            default -> NONE;
        };
    }
}
