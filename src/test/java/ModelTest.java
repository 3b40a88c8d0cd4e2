import java.lang.reflect.InvocationTargetException;
import java.lang.reflect.Method;
import java.util.ArrayList;
import java.util.List;
import java.util.Random;
import java.util.TreeMap;

/** Random runs of calls, each call made to LackFerry and to the plain FerryModel: the answers are alike. */
public final class ModelTest {
    private static final int CALLS = 512;
    private final Random random;
    private final LackFerry ferry = new LackFerry();
    private final FerryModel model = new FerryModel();
    private final List<String> history = new ArrayList<>();
    private static final TreeMap<String, Method> FERRY = methodsOf(LackFerry.class);
    private static final TreeMap<String, Method> MODEL = methodsOf(FerryModel.class);
    private static final TreeMap<String, Integer> ANSWERS = new TreeMap<>();
    private int wrong;
    private int calls;

    private ModelTest(long seed) {
        random = new Random(seed);
    }

    private static TreeMap<String, Method> methodsOf(Class<?> type) {
        TreeMap<String, Method> methods = new TreeMap<>();
        for (Method method : type.getDeclaredMethods()) {
            if (java.lang.reflect.Modifier.isPublic(method.getModifiers())) {
                methods.put(method.getName(), method);
            }
        }
        return methods;
    }

    private static String answer(Method method, Object object, Object... args) {
        try {
            return String.valueOf(method.invoke(object, args));
        } catch (InvocationTargetException e) {
            return "throws." + e.getCause().getClass().getSimpleName();
        } catch (IllegalAccessException e) {
            throw new IllegalStateException(e);
        }
    }

    private String call(String name, Object... args) {
        String got = answer(FERRY.get(name), ferry, args);
        String due = answer(MODEL.get(name), model, args);
        String row = name + java.util.Arrays.toString(args) + " answered " + got;
        history.add(row);
        calls++;
        ANSWERS.merge(name + (due.startsWith("-") ? " below 0" : ""), 1, Integer::sum);
        if (!got.equals(due)) {
            wrong++;
            System.out.println(row + ", due is " + due);
        }
        return due;
    }

    private int pick(int least, int most) {
        return least + random.nextInt(most - least + 1);
    }

    private String oneOf(String... texts) {
        return texts[random.nextInt(texts.length)];
    }

    private void tape(String text) {
        for (int i = 0; i < text.length(); i += 20) {
            int[] n = new int[5];
            for (int k = 0; k < 20; k++) {
                int c = i + k < text.length() ? text.charAt(i + k) : 0;
                n[k / 4] |= c << 24 - 8 * (k % 4);
            }
            call("feed", n[0], n[1], n[2], n[3], n[4]);
        }
        call("end", text.length());
    }

    private String blank() {
        return oneOf(" ", " ", " ", "  ", "\n", " \n ");
    }

    private String join(Object... words) {
        StringBuilder text = new StringBuilder();
        for (Object word : words) {
            text.append(text.isEmpty() ? "" : blank()).append(word);
        }
        return text.append(oneOf(";", "; ", " ;\n")).toString();
    }

    private String straitText(boolean isLong) {
        StringBuilder text = new StringBuilder();
        int goods = isLong ? pick(0, 7) : pick(0, 20) == 0 ? 0 : pick(1, 4);
        int men = isLong ? pick(0, 9) : pick(0, 20) == 0 ? 0 : pick(1, 6);
        if (random.nextInt(3) > 0) {
            text.append(join("load", pick(1, oneOf("s", "l").equals("s") ? 8 : 40)));
        }
        for (int g = 0; g < goods; g++) {
            text.append(join("good", "g" + (char) ('a' + g)));
        }
        for (int m = 0; m < men; m++) {
            text.append(join("man", "m" + (char) ('a' + m), pick(0, 1)));
        }
        for (int g = 0; g < goods; g++) {
            for (int shore = 0; shore < 2; shore++) {
                int big = random.nextInt(4) == 0 ? 250 : 30;
                text.append(random.nextInt(5) == 0 ? "" : join("stock", "g" + (char) ('a' + g), shore, pick(0, big)));
                text.append(random.nextInt(3) == 0 ? "" : join("wants", "g" + (char) ('a' + g), shore, pick(0, big)));
                text.append(random.nextInt(3) > 0 ? "" : join("eats", "g" + (char) ('a' + g), shore, pick(0, 6)));
                text.append(random.nextInt(3) > 0 ? "" : join("makes", "g" + (char) ('a' + g), shore, pick(0, 6)));
            }
        }
        int misses = men < 2 ? 0 : pick(0, isLong ? 22 : 9);
        for (int k = 0; k < misses; k++) {
            int m = pick(0, men - 1);
            int o = isLong ? pick(0, men - 1) : (m + 1 + k) % men;
            text.append(m == o && !isLong ? "" : join("misses", "m" + (char) ('a' + m), "m" + (char) ('a' + o), pick(0, pick(0, 6))));
        }
        return text.toString();
    }

    private String logText() {
        StringBuilder text = new StringBuilder();
        int lines = random.nextInt(10) == 0 ? pick(38, 42) : pick(0, 6);
        for (int k = 0; k < lines; k++) {
            String good = "g" + (char) ('a' + pick(0, Math.max(0, model.count(0) - 1)));
            String man = "m" + (char) ('a' + pick(0, Math.max(0, model.count(1) - 1)));
            int kind = lines > 20 ? 5 : pick(0, 5);
            text.append(kind < 3 ? join(oneOf("hoards", "bares", "wastes"), good, pick(0, 1), pick(1, 12))
                : kind == 3 ? join(man, "dies") : lines > 20 ? oneOf("day 9;", "day 2;") : join("day", pick(1, 8)));
        }
        return text.toString();
    }

    private String oneText(int depth) {
        int kind = depth > 9 ? 9 : pick(0, 9);
        if (kind < 2) {
            return "not" + blank() + oneText(depth + 1);
        }
        if (kind < 4) {
            return "(" + condText(depth + 1) + ")";
        }
        if (kind < 7) {
            return oneOf("lacked", "hoarded", "made", "eaten", "false") + blank() + pick(0, 1);
        }
        return oneOf("near", "far", "crossed", "number") + oneOf("<", "=", ">") + oneOf(" ", "") + pick(0, 12);
    }

    private String condText(int depth) {
        StringBuilder text = new StringBuilder(oneText(depth));
        for (int k = pick(0, depth == 0 ? 3 : 2); k > 0; k--) {
            text.append(blank()).append(oneOf("or", "and")).append(blank()).append(oneText(depth));
        }
        return text.toString();
    }

    private String harmed(String text) {
        StringBuilder harmed = new StringBuilder(text);
        for (int k = pick(1, 2); k > 0; k--) {
            int at = random.nextInt(harmed.length() + 1);
            switch (pick(0, 6)) {
                case 0: harmed.setLength(at);
                    break;
                case 1: harmed.insert(at, oneOf(";", "<", "(", ")", ".", "a", "1", "A", "\t", "" + (char) 233, "\0", "99"));
                    break;
                case 2: harmed.insert(at, " ".repeat(pick(0, 400)));
                    break;
                case 3: harmed.insert(at, oneOf(" load 5;", " good ga;", " day 3;", " man day 0;", " 251 ", " 61 ", " ga "));
                    break;
                case 4: harmed.append(oneOf(" ", "\n", ";", "or", "load 3;", "abcdefgh", "1234")
                    .repeat(pick(1, 200)));
                    break;
                default:
                    if (at < harmed.length()) {
                        harmed.deleteCharAt(at);
                    }
            }
        }
        harmed.setLength(Math.min(harmed.length(), 940));
        return harmed.toString();
    }

    private String shaped(String text) {
        String cut = text.length() > 940 ? text.substring(0, 940) : text;
        return random.nextInt(4) == 0 ? harmed(cut) : cut;
    }

    private void tellStrait() {
        String text = shaped(straitText(random.nextInt(5) == 0));
        for (int k = 0; k < 5 && text.length() > 900 && random.nextInt(6) > 0; k++) {
            text = straitText(false);
        }
        tape(text.length() > 940 ? text.substring(0, 940) : text);
        call("strait");
        call("fault");
    }

    private int g() {
        return random.nextInt(12) == 0 ? pick(-2, 7) : pick(0, Math.max(0, model.count(0) - 1));
    }

    private int m() {
        return random.nextInt(12) == 0 ? pick(-2, 9) : pick(0, Math.max(0, model.count(1) - 1));
    }

    private int shore() {
        return random.nextInt(15) == 0 ? pick(-1, 2) : pick(0, 1);
    }

    private int upTo(int usual, int most) {
        return random.nextInt(12) == 0 ? oneOfInts(-1, 0, most, most + 1, Integer.MIN_VALUE, Integer.MAX_VALUE) : pick(1, usual);
    }

    private int oneOfInts(int... numbers) {
        return numbers[random.nextInt(numbers.length)];
    }

    private void doSomething() {
        switch (pick(0, 15)) {
            case 0, 1, 2 -> call("hoard", g(), shore(), upTo(12, 250));
            case 3, 4 -> call("bare", g(), shore(), upTo(10, 250));
            case 5 -> call("waste", g(), shore(), upTo(12, 250));
            case 6 -> {
                if (random.nextInt(3) == 0) {
                    call("die", m());
                }
            }
            case 7, 8 -> call("days", upTo(5, 60));
            case 9 -> call("drawn", upTo(6, 60), random.nextInt());
            case 10 -> call("undo");
            case 11 -> {
                tape(shaped(logText()));
                call("log", random.nextInt(15) == 0 ? pick(-1, 3) : pick(0, 1));
                call("fault");
                for (int what = -1; what <= 4; what++) {
                    call("logged", what);
                }
                call("end", 0);
            }
            case 12 -> {
                tape(shaped(condText(0)));
                call("sentence");
                call("fault");
            }
            case 13 -> call("image", pick(-1, 2));
            case 14 -> {
                if (random.nextInt(4) == 0) {
                    call("restore", pick(-1, 2));
                }
            }
            default -> {
                if (random.nextInt(6) == 0) {
                    tellStrait();
                }
            }
        }
    }

    private String whichText() {
        StringBuilder text = new StringBuilder().append((char) (random.nextInt(10) == 0 ? 2 : pick(0, 1)));
        int g = Math.floorMod(g(), 6);
        int stock = random.nextInt(5) == 0 ? pick(0, 255) : pick(0, 20);
        int length = random.nextInt(8) == 0 ? pick(0, 32) : pick(2, 30);
        for (int k = 0; k < length; k++) {
            text.append((char) (stock & 255));
            stock = Math.max(0, stock + model.good(g, text.charAt(0), 4) - model.good(g, text.charAt(0), 3));
            stock += random.nextInt(60) == 0 ? 1 : 0;
        }
        return text.toString();
    }

    private void askSomething() {
        switch (pick(0, 27)) {
            case 0, 1 -> call("good", g(), shore(), pick(-1, 8));
            case 2 -> call("crossed", g(), shore());
            case 3, 4 -> call("man", m(), pick(-1, 5));
            case 5 -> call("apart", m(), m());
            case 6, 7 -> call("now", pick(-1, 7));
            case 8 -> call("lacks", shore());
            case 9 -> call("falses", shore());
            case 10 -> call("going");
            case 11 -> call("goes", g());
            case 12 -> call("crosses", m());
            case 13 -> call("comes", g(), shore());
            case 14 -> call("without", g(), shore(), upTo(30, 250), upTo(12, 60));
            case 15 -> call("meet", m(), m());
            case 16 -> call("loads", upTo(10, 60));
            case 17 -> {
                tape(whichText());
                call("which");
            }
            case 18 -> call("settles");
            case 19 -> call("hunger", g(), shore(), upTo(10, 60));
            case 20 -> call("prices");
            case 21 -> call("price", pick(-1, 6), shore());
            case 22 -> call("dearest");
            case 23 -> call("rats");
            case 24 -> call("hoarded", shore());
            case 25 -> call("odds", m(), upTo(4, 30), random.nextInt());
            case 26 -> call("said", pick(-2, 3));
            default -> call("count", pick(-1, 5));
        }
    }

    private void lookAtAll() {
        for (int g = 0; g < model.count(0); g++) {
            for (int k = 0; k < 16; k++) {
                call("good", g, k / 8, k % 8);
            }
        }
        for (int m = 0; m < model.count(1); m++) {
            for (int what = 0; what < 5; what++) {
                call("man", m, what);
            }
        }
        for (int what = 0; what < 7; what++) {
            call("now", what);
        }
    }

    private int run() {
        tellStrait();
        for (int k = 0; k < 3 && model.count(0) * model.count(1) == 0; k++) {
            tellStrait();
        }
        for (int k = 0; k < 30; k++) {
            askSomething();
        }
        if (random.nextInt(6) == 0) {
            for (int k = 0; k < 6; k++) {
                call("days", 60);
            }
            call("days", pick(30, 40));
        }
        while (calls < CALLS - 200 && wrong == 0) {
            if (random.nextInt(2) == 0) {
                doSomething();
            } else {
                askSomething();
            }
        }
        lookAtAll();
        return wrong;
    }

    public static void main(String[] args) {
        int runs = args.length > 0 ? Integer.parseInt(args[0]) : 400;
        long first = args.length > 1 ? Long.parseLong(args[1]) : 1;
        int wrong = 0;
        for (long seed = first; seed < first + runs; seed++) {
            ModelTest test = new ModelTest(seed);
            if (test.run() != 0) {
                wrong++;
                System.out.println("run " + seed + " went apart after " + test.history.size() + " calls");
            }
        }
        for (String name : FERRY.keySet()) {
            if (!ANSWERS.containsKey(name)) {
                wrong++;
                System.out.println(name + " never had an answer of 0 or more: the runs are too poor");
            }
        }
        if (args.length > 0) {
            System.out.println(ANSWERS);
        }
        System.out.println(runs + " random runs, " + wrong + " wrong");
        if (wrong != 0) {
            System.exit(1);
        }
    }
}
