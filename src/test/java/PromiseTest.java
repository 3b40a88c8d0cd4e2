import java.util.NoSuchElementException;

/** Each promise of the document: ordinary inputs, the edges it names, and wrong inputs. */
public final class PromiseTest {
    private static final int NONE = LackFerry.NONE;
    private static final int[] ODD_NUMBERS = {Integer.MIN_VALUE, -2, -1, 9, 1000, Integer.MAX_VALUE};
    private static final String BASE = "load 5;good salt;good corn;stock salt 0 20;wants salt 0 5;eats salt 0 1;"
        + "wants salt 1 10;eats salt 1 3;stock salt 1 4;makes corn 1 2;wants corn 0 6;eats corn 0 2;"
        + "man ann 0;man bob 1;man cid 1;misses bob ann 2;misses ann cid 0;";
    /** Nobody but a has room, and a alone goes though he misses b. */
    private static final String TIGHT = "load 3;good g;stock g 0 9;wants g 1 9;man a 0;man b 0;man c 1;"
        + "misses c a 0;misses c b 0;";
    private static final String[] WORDS = {"load", "good", "stock", "wants", "eats", "makes", "man", "misses", "hoards",
        "bares", "wastes", "dies", "day", "or", "and", "not", "lacked", "hoarded", "made", "eaten", "false", "near",
        "far", "crossed", "number"};
    private final Checks checks = new Checks();

    private PromiseTest() {
    }

    private void due(String call, long got, long want) {
        checks.due(call, got, want);
    }

    private void due(String call, boolean got, boolean want) {
        checks.due(call, got, want);
    }

    private LackFerry base() {
        return checks.strait(BASE);
    }

    private static LackFerry tell(LackFerry x, String text) {
        return Checks.tell(x, text);
    }

    private boolean throwsNoSuch(LackFerry x, int m, int what) {
        try {
            x.man(m, what);
            return false;
        } catch (NoSuchElementException e) {
            return true;
        }
    }

    private String allThatIsSo(LackFerry x) {
        return Checks.allThatIsSo(x);
    }

    private LackFerry atDay(LackFerry x, int day) {
        return checks.atDay(x, day);
    }

    // ---- the tape

    private void promise1() {
        checks.about("Promise 1");
        LackFerry x = new LackFerry();
        int[] counts = {0, 0, 10, 0, 0, NONE};
        for (int k = 0; k < counts.length; k++) {
            due("count " + k, x.count(k), counts[k]);
        }
        due("fault()", x.fault(), 0);
        due("undo()", x.undo(), NONE);
        due("said(-1)", x.said(-1), NONE);
        due("logged(0)", x.logged(0), NONE);
        due("price(0, 0)", x.price(0, 0), NONE);
        due("restore(0)", x.restore(0), false);
        due("now(0)", x.now(0), 0);
        due("now(5)", x.now(5), 0);
        due("rats()", x.rats(), 0);
        due("strait()", x.strait(), 0);
    }

    private void promise2() {
        checks.about("Promise 2");
        LackFerry x = new LackFerry();
        for (int k = 1; k <= 47; k++) {
            due("feed", x.feed(0, 0, 0, 0, 0), 20 * k);
        }
        due("feed beyond 940", x.feed(0, 0, 0, 0, 0), NONE);
        due("count(4)", x.count(4), 940);
        x.end(921);
        due("feed behind 921", x.feed(0, 0, 0, 0, 0), NONE);
        due("count(4)", x.count(4), 921);
        x.end(920);
        due("feed behind 920", x.feed(0, 0, 0, 0, 0), 940);
        x.end(0);
        due("feed, highest byte first", x.feed(0x676f6f64, 0x20733b73, 0x746f636b, 0x20732030, 0x20373b00), 20);
        x.end(19);
        due("strait()", x.strait(), 2);
        due("good(0, 0, 0)", x.good(0, 0, 0), 7);
        x.feed(0x00fffefd, -1, 0, 0, 0);
        x.end(4);
        due("which() of bytes above 127, which this good's stocks can't be", x.which(), 0);
        x.feed(0x00ffffff, -1, 0, 0, 0);
        x.end(8);
        due("which() of bytes above 127", x.which(), 1);
    }

    private void promise3() {
        checks.about("Promise 3");
        LackFerry x = new LackFerry();
        due("end(0)", x.end(0), true);
        due("end(1)", x.end(1), false);
        x.feed(1, 2, 3, 4, 5);
        due("end(21)", x.end(21), false);
        due("end(-1)", x.end(-1), false);
        due("end(lowest)", x.end(Integer.MIN_VALUE), false);
        due("end(highest)", x.end(Integer.MAX_VALUE), false);
        due("count(4)", x.count(4), 20);
        due("end(20)", x.end(20), true);
        due("end(7)", x.end(7), true);
        due("count(4)", x.count(4), 7);
        due("end(8)", x.end(8), false);
    }

    // ---- STRAITS and FAULTS

    private void straitFault(String ahead, String rest, int kind) {
        LackFerry x = base();
        String before = allThatIsSo(x);
        int got = tell(x, ahead + rest).strait();
        due("strait " + ahead + " | " + rest, got, -1 - ahead.length());
        due("fault of " + ahead + " | " + rest, x.fault(), kind);
        due("count(4)", x.count(4), 0);
        due("it stays at " + rest, before.equals(allThatIsSo(x)), true);
    }

    private void straitRight(String text, int lines) {
        LackFerry x = new LackFerry();
        due("strait " + text, tell(x, text).strait(), lines);
        due("fault of " + text, x.fault(), 0);
        due("count(4)", x.count(4), 0);
    }

    private void promise4() {
        checks.about("Promise 4");
        straitRight("", 0);
        straitRight(" \n ", 0);
        straitRight("load 040;", 1);
        straitRight("load\n40\n;\n", 1);
        straitRight("good abcdefg;", 1);
        straitRight("good a;good b;good c;good d;good e;good f;", 6);
        straitRight("man a 0;man b 1;man c 0;man d 0;man e 0;man f 0;man g 0;man h 1;", 8);
        straitRight("good abcdefg;good abcdefh;good a;good aa;man b 0;man ba 0;", 6);
        straitRight("good g;stock g 0 250;stock g 1 0;wants g 0 250;eats g 0 20;makes g 0 20;", 6);
        straitRight("man m 0;man n 0;misses m n 60;misses n m 0;", 4);
        straitRight(" ".repeat(893) + "load 5;", 1);
        promise4NoTokens();
        promise4Numbers();
        promise4Names();
        promise4Many();
        promise4Bytes();
        promise4New();
        promise4Full();
    }

    /** As much of all as there may be, so that no index is beyond. */
    private void promise4Full() {
        StringBuilder text = new StringBuilder();
        for (int k = 0; k < 6; k++) {
            text.append("good " + (char) ('a' + k) + ";stock " + (char) ('a' + k) + " 1 9;wants " + (char) ('a' + k) + " 0 1;");
        }
        for (int k = 0; k < 8; k++) {
            text.append("man " + (char) ('n' + k) + " " + k % 2 + ";");
        }
        LackFerry x = new LackFerry();
        String misses = "misses n o 0;misses o p 0;misses u n 0;misses n u 1;";
        due("strait()", tell(x, text + misses).strait(), 30);
        due("lacks(0)", x.lacks(0), 63);
        due("falses(0)", x.falses(0), 0);
        due("going(): n and p", x.going(), 5);
        due("dearest()", x.dearest(), 0);
        due("rats()", x.rats(), 120);
        due("hoarded(1)", x.hoarded(1), NONE);
        due("prices()", x.prices(), 6);
        due("price(5, 1)", x.price(5, 1), 0);
        due("settles()", x.settles(), 2);
        due("said(-1)", said(x, "number < 9"), 6);
        due("drawn(60, 3)", x.drawn(60, 3), 60);
        due("odds(7, 30, 3)", x.odds(7, 30, 3), 0);
        due("undo()", x.undo(), 0);
        x.days(2);
        due("n and p are over", x.now(3), 0xaf);
        due("a to f came", x.crossed(5, 0), 1);
        due("apart(6, 7)", x.apart(6, 7), 2);
        due("apart(7, 0)", x.apart(7, 0), 0);
        due("which()", tell(x, "\0\1\1").which(), 63);
        due("without(5, 0, 1, 60)", x.without(5, 0, 1, 60), 1);
    }

    private void promise4NoTokens() {
        straitFault("", "load5;", 1);
        straitFault("", ";", 1);
        straitFault("", "5;", 1);
        straitFault("", "day 5;", 1);
        straitFault("", "hello 5;", 1);
        straitFault("load", ";", 1);
        straitFault("load ", "x;", 1);
        straitFault("load ", "1000;", 1);
        straitFault("load ", "5a;", 1);
        straitFault("load 5", "", 1);
        straitFault("load 5 ", "", 1);
        straitFault("load 5 ", "5;", 1);
        straitFault("load 5;", ";", 1);
        straitFault("load 5", "\t;", 1);
        straitFault("load 5;", "" + (char) 233, 1);
        straitFault("load 5;", "\0", 1);
        straitFault("load 5", ".", 1);
        straitFault("load ", "(5);", 1);
        straitFault("good ", "abcdefgh;", 1);
        straitFault("good ", "Ab;", 1);
        straitFault("good ", "7;", 1);
        straitFault("good g;stock g ", "g 1;", 1);
        straitFault("good g;stock ", "0 1;", 1);
        straitFault("good g;stock g 0", ";", 1);
        straitFault("man m", ";", 1);
        straitFault("man m 0;misses m", ";", 1);
        for (String word : WORDS) {
            straitFault("good ", word + ";", 1);
            straitFault("man ", word + " 0;", 1);
            straitFault("good g;eats ", word + " 0 1;", 1);
            straitFault("man m 0;misses m ", word + " 1;", 1);
        }
    }

    private void promise4Numbers() {
        straitFault("load ", "0;", 2);
        straitFault("load ", "41;", 2);
        straitFault("load ", "000;", 2);
        straitFault("good g;stock g ", "2 1;", 2);
        straitFault("good g;stock g 1 ", "251;", 2);
        straitFault("good g;wants g 1 ", "251;", 2);
        straitFault("good g;eats g 1 ", "21;", 2);
        straitFault("good g;makes g 1 ", "21;", 2);
        straitFault("man m ", "2;", 2);
        straitFault("man m 0;man n 0;misses m n ", "61;", 2);
        straitFault("good g;stock g 0 1;stock g ", "2 1;", 2);
    }

    private void promise4Names() {
        straitFault("load 5;", "load 5;", 3);
        straitFault("load 5;", "load x;", 3);
        straitFault("good g;good ", "g;", 3);
        straitFault("good g;man ", "g 0;", 3);
        straitFault("man m 0;good ", "m;", 3);
        straitFault("man m 0;man ", "m 0;", 3);
        straitFault("man m 0;stock ", "m 0 1;", 3);
        straitFault("good g;misses ", "g g 1;", 3);
        straitFault("man m 0;misses m ", "n 1;", 3);
        straitFault("stock ", "g 0 1;good g;", 3);
        for (String sort : new String[] {"stock", "wants", "eats", "makes"}) {
            straitFault("good g;" + sort + " g 1 1;" + sort + " g 0 1;" + sort + " g ", "1 999;", 3);
        }
        straitFault("man m 0;man n 0;misses m ", "m 999;", 3);
        straitFault("man m 0;man n 0;misses m n 1;misses n m 1;misses m ", "n 999;", 3);
    }

    private void promise4Many() {
        straitFault("good a;good b;good c;good d;good e;good f;", "good ;", 4);
        straitFault("good a;good b;good c;good d;good e;good f;", "good a;", 4);
        straitFault("man a 0;man b 0;man c 0;man d 0;man e 0;man f 0;man g 0;man h 0;", "man", 4);
        StringBuilder many = new StringBuilder("man a 0;man b 0;man c 0;man d 0;man e 0;");
        for (int k = 0; k < 25; k++) {
            many.append(k / 5 == k % 5 ? "" : "misses " + (char) ('a' + k / 5) + " " + (char) ('a' + k % 5) + " 0;");
        }
        straitRight(many.toString(), 25);
        straitFault(many.toString(), "misses a a 1;", 4);
    }

    private void promise4Bytes() {
        String blanks = " ".repeat(893);
        straitFault("load 5;" + blanks, " ", 1);
        straitFault("load 5;" + blanks, " good g;", 1);
        straitFault(blanks + " load 5", ";", 1);
        straitFault(blanks + "  load ", "5;", 1);
        straitFault(blanks + " load ", "41;", 2);
        straitFault(blanks + "  ", "abcdefgh", 1);
        straitFault(blanks + "load 5;", "; load", 1);
        straitFault(" ".repeat(50), "?" + blanks.substring(4), 1);
        straitFault("good g;good ", "g;" + blanks, 3);
    }

    private void promise4New() {
        LackFerry x = base();
        x.hoard(0, 0, 3);
        x.days(5);
        tell(x, "made 1").sentence();
        tell(x, BASE).strait();
        due("all is as of a new object", allThatIsSo(x).equals(allThatIsSo(base())), true);
        x.days(5);
        tell(x, "made 1").sentence();
        due("strait()", tell(x, "good g;man m 1;").strait(), 2);
        due("now(0)", x.now(0), 0);
        due("now(5)", x.now(5), 0);
        due("now(6)", x.now(6), 0);
        due("good(0, 0, 0)", x.good(0, 0, 0), 0);
        due("good(0, 0, 1)", x.good(0, 0, 1), 0);
        due("good(0, 0, 2)", x.good(0, 0, 2), 0);
        due("crossed(0, 1)", x.crossed(0, 1), 0);
        due("man(0, 0)", x.man(0, 0), 1);
        due("man(0, 3)", x.man(0, 3), 0);
        due("count(2)", x.count(2), 10);
        due("count(3)", x.count(3), 0);
        LackFerry y = checks.strait("man a 0;man b 1;");
        y.days(3);
        due("apart(0, 1)", y.apart(0, 1), 3);
        due("now(4)", y.now(4), 3);
        due("strait() with a FAULT", tell(y, "load 5;good g;stock g 0 1;?").strait(), -27);
        due("strait() again", tell(y, "load 6;good g;stock g 0 2;man a 0;man b 1;").strait(), 5);
        due("apart(0, 1)", y.apart(0, 1), 0);
        due("now(4)", y.now(4), 0);
        due("said(-1)", x.said(-1), NONE);
        due("undo()", x.undo(), NONE);
    }

    private void promise5() {
        checks.about("Promise 5");
        LackFerry x = new LackFerry();
        due("fault()", x.fault(), 0);
        String[] texts = {"x", "load 0;", "load 1;load 1;", "good a;good b;good c;good d;good e;good f;good g;"};
        for (int kind = 1; kind <= 4; kind++) {
            tell(x, texts[kind - 1]).strait();
            due("fault() of a STRAIT", x.fault(), kind);
        }
        tell(x, "good g;").strait();
        due("fault() without one", x.fault(), 0);
        tell(x, "hoards g 0 0;").log(0);
        due("fault() of a LOG", x.fault(), 2);
        tell(x, "").log(7);
        due("log(7) leaves it", x.fault(), 2);
        tell(x, "").log(0);
        due("fault() of an empty LOG", x.fault(), 0);
        tell(x, "").sentence();
        due("fault() of an empty SENTENCE", x.fault(), 1);
        x.which();
        due("which() leaves it", x.fault(), 1);
        tell(x, "made 0").sentence();
        due("fault() of a SENTENCE without one", x.fault(), 0);
    }

    // ---- what is so

    private void promise6() {
        checks.about("Promise 6");
        LackFerry x = base();
        int[][] due = {{20, 0, 5, 1, 0, 0, 0, 0}, {4, 0, 10, 3, 0, 6, 0, 0}, {0, 0, 6, 2, 0, 6, 0, 0}, {0, 0, 0, 0, 2, 0, 0, 0}};
        for (int k = 0; k < 32; k++) {
            due("good " + k / 8 + " " + k % 8, x.good(k / 16, k / 8 % 2, k % 8), due[k / 8][k % 8]);
        }
        for (int odd : ODD_NUMBERS) {
            due("good(odd, 0, 0)", x.good(odd, 0, 0), NONE);
            due("good(0, odd, 0)", x.good(0, odd, 0), NONE);
            due("good(0, 0, odd)", x.good(0, 0, odd), NONE);
        }
        due("good(2, 0, 0)", x.good(2, 0, 0), NONE);
        due("good(0, 2, 0)", x.good(0, 2, 0), NONE);
        due("good(0, 0, 8)", x.good(0, 0, 8), NONE);
        x.hoard(0, 0, 15);
        due("as much as is wanted: no LACK", x.good(0, 0, 5), 0);
        due("none is not FALSE", x.good(0, 0, 6), 0);
        x.hoard(0, 0, 1);
        due("LACK", x.good(0, 0, 5), 1);
        due("FALSE", x.good(0, 0, 6), 1);
        x.waste(0, 0, 4);
        x.bare(0, 0, 12);
        x.hoard(0, 0, 12);
        due("LACK of 5 with a HOARD of 16", x.good(0, 0, 6), 1);
        x.bare(0, 0, 16);
        x.waste(0, 0, 12);
        x.hoard(0, 0, 4);
        due("LACK of 5 with a HOARD of 4", x.good(0, 0, 6), 0);
        due("HOARD", x.good(0, 0, 1), 4);
        LackFerry y = checks.strait("good g;stock g 1 5;wants g 1 5;");
        y.hoard(0, 1, 3);
        due("all that is lacking is hoarded, no more", y.good(0, 1, 6), 1);
        y.waste(0, 1, 1);
        due("one less is hoarded", y.good(0, 1, 6), 0);
        x.days(2);
        due("HUNGER of 2 on two DAYS, 2 came on the second", x.good(1, 0, 7), 2);
    }

    private void promise7() {
        checks.about("Promise 7");
        LackFerry x = base();
        due("crossed(0, 1)", x.crossed(0, 1), 0);
        x.days(3);
        due("crossed(0, 1)", x.crossed(0, 1), 8);
        due("crossed(0, 0)", x.crossed(0, 0), 0);
        due("crossed(1, 0)", x.crossed(1, 0), 2);
        due("crossed(1, 1)", x.crossed(1, 1), 0);
        due("crossed(2, 0)", x.crossed(2, 0), NONE);
        for (int odd : ODD_NUMBERS) {
            due("crossed(odd, 0)", x.crossed(odd, 0), NONE);
            due("crossed(0, odd)", x.crossed(0, odd), NONE);
        }
    }

    private void promise8() {
        checks.about("Promise 8");
        LackFerry x = base();
        int[][] due = {{0, 0, 4, 0, 1}, {1, 0, 0, 0, 1}, {1, 1, 0, 0, 1}};
        for (int k = 0; k < 15; k++) {
            due("man " + k / 5 + " " + k % 5, x.man(k / 5, k % 5), due[k / 5][k % 5]);
        }
        for (int odd : ODD_NUMBERS) {
            due("man(odd, 0) throws", throwsNoSuch(x, odd, 0), true);
            due("man(0, odd) throws", throwsNoSuch(x, 0, odd), true);
        }
        due("man(3, 0) throws", throwsNoSuch(x, 3, 0), true);
        due("man(0, 5) throws", throwsNoSuch(x, 0, 5), true);
        due("man(0, 4) throws", throwsNoSuch(x, 0, 4), false);
        x.days(2);
        due("two DAYS apart: bob misses ann", x.man(1, 2), 1);
        due("ann is missed by bob", x.man(0, 1), 2);
        due("cid came to her: she misses nobody", x.man(0, 2), 0);
        due("cid crossed", x.man(2, 3), 1);
        x.die(1);
        due("dead: SHORE", x.man(1, 0), NONE);
        due("dead: alive", x.man(1, 4), 0);
        due("dead: he MISSES", x.man(1, 2), 0);
        due("ann is not missed by the dead", x.man(0, 1), 0);
        x.undo();
        x.die(0);
        due("nobody MISSES the dead", x.man(1, 2), 0);
        due("the dead is not MISSED", x.man(0, 1), 0);
        x.die(2);
        due("dead: crossed once", x.man(2, 3), 1);
    }

    private void promise9() {
        checks.about("Promise 9");
        LackFerry x = base();
        due("apart(0, 1)", x.apart(0, 1), 0);
        x.days(2);
        due("apart(0, 1)", x.apart(0, 1), 2);
        due("apart(1, 0)", x.apart(1, 0), 2);
        due("apart(0, 2), who met", x.apart(0, 2), 0);
        due("apart(1, 2), since the second DAY", x.apart(1, 2), 1);
        due("apart(1, 1)", x.apart(1, 1), NONE);
        due("apart(1, 3)", x.apart(1, 3), NONE);
        for (int odd : ODD_NUMBERS) {
            due("apart(odd, 0)", x.apart(odd, 0), NONE);
            due("apart(0, odd)", x.apart(0, odd), NONE);
        }
        x.die(1);
        due("apart of a dead", x.apart(0, 1), NONE);
        due("apart of a dead", x.apart(1, 0), NONE);
        due("apart of the living", x.apart(0, 2), 0);
    }

    private void promise10() {
        checks.about("Promise 10");
        LackFerry x = checks.strait(TIGHT);
        int[][] due = {{0, 0, 3, 4, 0, 0, 0}, {1, 1, 2, 5, 0, 3, 0}, {2, 0, 2, 5, 1, 3, 0}, {3, 1, 0, 7, 1, 6, 0}};
        for (int day = 0; day < due.length; day++) {
            for (int what = 0; what < 7; what++) {
                due("now(" + what + ") on " + day, x.now(what), due[day][what]);
            }
            x.days(1);
        }
        for (int odd : ODD_NUMBERS) {
            due("now(odd)", x.now(odd), NONE);
        }
        due("now(7)", x.now(7), NONE);
        x.die(0);
        due("the dead are on no SHORE", x.now(2) + x.now(3), 6);
        LackFerry y = base();
        y.days(3);
        due("HUNGER in all", y.now(6), 4);
        atDay(y, 400);
        due("now(1) when all are over", y.now(1), 0);
    }

    // ---- what is done

    private void wrongDeeds(LackFerry x) {
        for (int odd : ODD_NUMBERS) {
            int n = odd == 9 ? 251 : odd;
            due("hoard(0, 0, odd)", x.hoard(0, 0, n), NONE);
            due("bare(0, 0, odd)", x.bare(0, 0, n), NONE);
            due("waste(0, 0, odd)", x.waste(0, 0, n), NONE);
            due("hoard(odd, 0, 1)", x.hoard(odd, 0, 1), NONE);
            due("bare(odd, 0, 1)", x.bare(odd, 0, 1), NONE);
            due("waste(odd, 0, 1)", x.waste(odd, 0, 1), NONE);
            due("hoard(0, odd, 1)", x.hoard(0, odd, 1), NONE);
            due("bare(0, odd, 1)", x.bare(0, odd, 1), NONE);
            due("waste(0, odd, 1)", x.waste(0, odd, 1), NONE);
        }
        due("hoard(0, 0, 0)", x.hoard(0, 0, 0), NONE);
        due("bare(0, 2, 1)", x.bare(0, 2, 1), NONE);
        due("waste(2, 0, 1)", x.waste(2, 0, 1), NONE);
    }

    private void promises11To13() {
        checks.about("Promises 11 to 13");
        LackFerry x = base();
        wrongDeeds(x);
        due("hoard 21 of 20", x.hoard(0, 0, 21), 1);
        due("waste 21 of 20", x.waste(0, 0, 21), 1);
        due("bare 1 of 0", x.bare(0, 0, 1), 1);
        due("nothing was done", x.undo(), NONE);
        due("hoard 20 of 20", x.hoard(0, 0, 20), 0);
        due("STOCK", x.good(0, 0, 0), 0);
        due("HOARD", x.good(0, 0, 1), 20);
        due("bare 21 of 20", x.bare(0, 0, 21), 1);
        due("bare 20 of 20", x.bare(0, 0, 20), 0);
        due("STOCK", x.good(0, 0, 0), 20);
        due("HOARD", x.good(0, 0, 1), 0);
        due("waste 20 of 20", x.waste(0, 0, 20), 0);
        due("STOCK", x.good(0, 0, 0), 0);
        due("the other SHORE", x.good(0, 1, 0), 4);
        LackFerry y = checks.strait("good g;stock g 0 250;makes g 0 20;");
        due("hoard 250", y.hoard(0, 0, 250), 0);
        y.days(60);
        due("999 at most", y.good(0, 0, 0), 999);
        due("bare above 999", y.bare(0, 0, 1), 2);
        due("bare more than there is, above 999", y.bare(0, 0, 250), 2);
        y.waste(0, 0, 250);
        due("bare up to 999", y.bare(0, 0, 250), 0);
        due("bare of nothing, above 999", y.bare(0, 0, 1), 1);
        atDay(y, 400);
        due("hoard when all are over", y.hoard(0, 0, 9), 0);
    }

    private void promise14() {
        checks.about("Promise 14");
        LackFerry x = base();
        for (int odd : ODD_NUMBERS) {
            due("die(odd)", x.die(odd), NONE);
        }
        due("die(3)", x.die(3), NONE);
        due("die(2)", x.die(2), 0);
        due("die(2) again", x.die(2), 1);
        due("man(2, 0)", x.man(2, 0), NONE);
        due("undo()", x.undo(), 0);
        due("man(2, 0)", x.man(2, 0), 1);
    }

    private void promise15() {
        checks.about("Promise 15");
        LackFerry x = base();
        due("days(0)", x.days(0), NONE);
        due("days(61)", x.days(61), NONE);
        due("days(-1)", x.days(-1), NONE);
        due("days(1)", x.days(1), 1);
        due("salt from 0: 5 go, 1 is eaten", x.good(0, 0, 0), 14);
        due("salt on 1: 5 come, 3 are eaten", x.good(0, 1, 0), 6);
        due("corn is made behind the ferry", x.good(1, 1, 0), 2);
        due("days(60)", x.days(60), 60);
        atDay(x, 398);
        due("days(3) on 398", x.days(3), 2);
        due("days(3) on 400", x.days(3), 0);
        due("now(0)", x.now(0), 400);
        LackFerry y = checks.strait("good g;stock g 0 250;makes g 0 20;eats g 0 1;");
        y.days(60);
        due("made up to 999, then eaten", y.good(0, 0, 0), 998);
        LackFerry z = checks.strait("good g;stock g 0 2;eats g 0 5;makes g 0 1;");
        z.days(2);
        due("STOCK 0", z.good(0, 0, 0), 0);
        due("HUNGER 2 and 4", z.good(0, 0, 7), 6);
        LackFerry w = checks.strait("man a 0;man b 0;man c 1;misses c a 0;misses a b 0;");
        w.days(1);
        due("a is over, b is not yet: as it was ahead of it", w.now(3), 5);
    }

    private void promise16() {
        checks.about("Promise 16");
        LackFerry x = base();
        due("undo()", x.undo(), NONE);
        for (int k = 1; k <= 9; k++) {
            x.hoard(0, 0, 1);
        }
        for (int k = 7; k >= 0; k--) {
            due("undo()", x.undo(), k);
        }
        due("undo() of the ninth", x.undo(), NONE);
        due("the first stays", x.good(0, 0, 1), 1);
        String[] before = new String[8];
        for (int k = 0; k < 7; k++) {
            before[k] = allThatIsSo(x);
            due("deed " + k, deed(x, k), k == 5 ? 3 : k == 6 ? NONE : 0);
        }
        due("refused", x.die(0), 1);
        due("refused", x.bare(0, 0, 250), 1);
        due("refused", x.hoard(9, 0, 1), NONE);
        tell(x, "cid dies;").log(0);
        for (int k = 6; k >= 0; k--) {
            due("undo() of deed " + k, x.undo(), k);
            due("as ahead of deed " + k, before[k].equals(allThatIsSo(x)), true);
        }
        due("undo()", x.undo(), NONE);
        tell(x, "made 0").sentence();
        x.hoard(0, 0, 1);
        tell(x, "made 1").sentence();
        x.undo();
        due("the SENTENCE stays", x.said(0), 1);
        atDay(x, 400);
        due("days(1)", x.days(1), 0);
        due("drawn(1, 1)", x.drawn(1, 1), 0);
        due("undo() of what went by ahead of these", x.undo(), 6);
        due("now(0)", x.now(0), 360);
        undoOfLogs();
    }

    private void undoOfLogs() {
        LackFerry x = new LackFerry();
        due("log(1) of an empty tape", x.log(1), NONE);
        due("nothing was lived", x.undo(), NONE);
        LackFerry y = base();
        y.hoard(0, 0, 1);
        due("log(1) of blanks", tell(y, " \n ").log(1), NONE);
        due("log(1), WRONG at once", tell(y, "ann dies;").log(1), NONE);
        due("log(1), WRONG at once", tell(y, "ann dies;day 3;").log(1), 0);
        due("log(0)", tell(y, "day 3;").log(0), NONE);
        due("undo() of the LOG that was lived", y.undo(), 1);
        due("ann lives", y.man(0, 4), 1);
        due("undo() of hoard()", y.undo(), 0);
        due("log(1), WRONG at its second LINE", tell(y, "day 1;wastes salt 0 250;day 1;").log(1), 1);
        due("undo() of the LINE that was lived", y.undo(), 0);
        due("now(0)", y.now(0), 0);
        due("undo()", y.undo(), NONE);
    }

    private int deed(LackFerry x, int k) {
        switch (k) {
            case 0: return x.hoard(0, 0, 2);
            case 1: return x.bare(0, 0, 3);
            case 2: return x.waste(0, 0, 1);
            case 3: return x.days(7) - 7;
            case 4: return x.die(0);
            case 5: return x.drawn(3, 77);
            default: return tell(x, "day 2;bob dies;").log(1);
        }
    }

    private void promises17To18() {
        checks.about("Promises 17 and 18");
        LackFerry x = base();
        due("lacks(0)", x.lacks(0), 2);
        due("lacks(1)", x.lacks(1), 1);
        x.hoard(0, 0, 16);
        due("lacks(0)", x.lacks(0), 3);
        due("falses(0)", x.falses(0), 1);
        due("falses(1)", x.falses(1), 0);
        x.hoard(0, 1, 4);
        due("falses(1): a true one for all that is hoarded", x.falses(1), 0);
        x.waste(0, 0, 4);
        x.bare(0, 0, 1);
        due("falses(0)", x.falses(0), 1);
        for (int odd : ODD_NUMBERS) {
            due("lacks(odd)", x.lacks(odd), NONE);
            due("falses(odd)", x.falses(odd), NONE);
        }
        due("lacks(2)", x.lacks(2), NONE);
        due("falses(2)", x.falses(2), NONE);
    }

    // ---- what would be

    private void promises19To20() {
        checks.about("Promises 19 and 20");
        LackFerry x = checks.strait(TIGHT);
        due("going(): room for one", x.going(), 1);
        due("goes(0): what room he leaves", x.goes(0), 1);
        LackFerry y = checks.strait("load 5;good g;good h;stock g 0 3;stock h 0 9;wants g 1 9;wants h 1 9;");
        due("goes(0): all STOCK", y.goes(0), 3);
        due("goes(1): all room", y.goes(1), 2);
        due("goes(2)", y.goes(2), NONE);
        for (int odd : ODD_NUMBERS) {
            due("goes(odd)", y.goes(odd), NONE);
        }
        LackFerry z = checks.strait("load 1;good g;stock g 0 3;wants g 1 9;man a 0;man b 1;misses b a 0;");
        due("going(): no room for a MAN", z.going(), 0);
        due("goes(0)", z.goes(0), 1);
        due("asking changes nothing", z.now(5), 0);
        due("room for one MAN", checks.strait("load 2;man a 0;man b 1;misses b a 0;").going(), 1);
        LackFerry w = checks.strait("man a 0;man b 0;man c 1;misses c a 0;misses a b 0;");
        due("going(): as it was ahead of it", w.going(), 1);
        LackFerry v = checks.strait("good g;stock g 0 9;wants g 0 9;wants g 1 3;man a 0;man b 1;misses b a 0;");
        due("goes(0): what is lacking there, though it is wanted here", v.goes(0), 3);
        x.die(2);
        due("going(): nobody lives who misses", x.going(), 0);
        LackFerry u = checks.strait("good g;stock g 0 9;wants g 1 3;eats g 1 3;makes g 0 3;man a 0;man b 1;misses b a 0;misses a b 60;");
        atDay(u, 398);
        due("goes(0) on 398", u.goes(0), 3);
        atDay(u, 400);
        due("goes(0) when all are over", u.goes(0), 0);
        due("going() when all are over", u.going(), 0);
    }

    private void promises21To22() {
        checks.about("Promises 21 and 22");
        LackFerry x = base();
        due("crosses(0)", x.crosses(0), 2);
        due("crosses(1)", x.crosses(1), NONE);
        due("crosses(2)", x.crosses(2), 1);
        due("comes(0, 0)", x.comes(0, 0), NONE);
        due("comes(0, 1)", x.comes(0, 1), 0);
        due("comes(1, 0)", x.comes(1, 0), 1);
        due("comes(1, 1)", x.comes(1, 1), NONE);
        due("crosses(3)", x.crosses(3), NONE);
        due("comes(2, 0)", x.comes(2, 0), NONE);
        for (int odd : ODD_NUMBERS) {
            due("crosses(odd)", x.crosses(odd), NONE);
            due("comes(odd, 0)", x.comes(odd, 0), NONE);
            due("comes(0, odd)", x.comes(0, odd), NONE);
        }
        due("nothing is done by asking", x.now(0), 0);
        x.days(1);
        due("the DAY, not how many", x.crosses(2), 1);
        due("the DAY, not how many", x.comes(0, 1), 2);
        x.die(2);
        due("crosses of a dead", x.crosses(2), NONE);
        String late = "good g;stock g 1 9;stock g 0 250;eats g 0 1;wants g 0 ";
        due("on the 100th DAY", checks.strait(late + "152;").comes(0, 0), 99);
        due("on the 102nd DAY", checks.strait(late + "151;").comes(0, 0), NONE);
        String chain = "man e 0;man b 1;man g 1;misses e b 60;misses b g ";
        due("crosses on the 100th DAY", checks.strait(chain + "38;").crosses(2), 99);
        due("crosses on the 102nd DAY", checks.strait(chain + "39;").crosses(2), NONE);
        due("meet in 100 DAYS", checks.strait(chain + "38;").meet(0, 2), 100);
        due("meet in 102 DAYS", checks.strait(chain + "39;").meet(0, 2), NONE);
        LackFerry y = checks.strait(late + "152;man a 1;man b 0;misses b a 60;");
        due("crosses(0)", y.crosses(0), 61);
        atDay(y, 400);
        due("comes when all are over", y.comes(0, 0), NONE);
        due("crosses when all are over", y.crosses(0), NONE);
    }

    private void promise23() {
        checks.about("Promise 23");
        LackFerry x = base();
        due("without(0, 1, 5, 1)", x.without(0, 1, 5, 1), 0);
        due("without(0, 1, 6, 1)", x.without(0, 1, 6, 1), NONE);
        due("without(0, 0, 1, 2)", x.without(0, 0, 1, 2), 10);
        due("ann takes room", x.without(0, 1, 8, 3), 0);
        due("ann takes room", x.without(0, 1, 9, 3), NONE);
        due("nothing is done by asking", x.good(0, 0, 0), 20);
        String toAndFro = "load 40;good g;stock g 0 10;wants g 0 10;wants g 1 4;";
        due("4 go and come each two DAYS", checks.strait(toAndFro).without(0, 0, 16, 8), 0);
        due("no more can", checks.strait(toAndFro).without(0, 0, 17, 9), NONE);
        due("one is eaten there", checks.strait(toAndFro + "eats g 1 1;").without(0, 0, 7, 4), NONE);
        due("3 come each time", checks.strait(toAndFro + "eats g 1 1;").without(0, 0, 6, 4), 0);
        due("all must be wasted", checks.strait("load 40;good g;stock g 0 9;stock g 1 9;wants g 0 9;").without(0, 0, 9, 2), 9);
        LackFerry y = checks.strait("load 40;good g;stock g 0 30;stock g 1 250;wants g 1 250;");
        due("one must go so that one comes", y.without(0, 1, 1, 1), 1);
        due("without(0, 1, 30, 1)", y.without(0, 1, 30, 1), 30);
        due("without(0, 1, 31, 60)", y.without(0, 1, 31, 60), NONE);
        due("the ferry goes the other way", checks.strait("good g;stock g 1 9;wants g 0 9;").without(0, 0, 1, 1), NONE);
        for (int odd : ODD_NUMBERS) {
            due("without(odd, 0, 1, 1)", y.without(odd, 1, 1, 1), NONE);
            due("without(0, odd, 1, 1)", y.without(0, odd, 1, 1), NONE);
            due("without(0, 1, odd, 1)", y.without(0, 1, odd == 9 ? 251 : odd, 1), NONE);
            due("without(0, 1, 1, odd)", y.without(0, 1, 1, odd == 9 ? 61 : odd), NONE);
        }
        due("without(0, 1, 0, 1)", y.without(0, 1, 0, 1), NONE);
        due("without(0, 1, 1, 0)", y.without(0, 1, 1, 0), NONE);
        LackFerry z = checks.strait("load 40;good g;stock g 0 250;stock g 1 250;makes g 1 20;wants g 1 10;");
        atDay(z, 60);
        due("more than one waste() could", z.without(0, 1, 1, 1), 990);
        atDay(z, 400);
        due("when all are over", z.without(0, 1, 1, 1), NONE);
    }

    private void promises24To25() {
        checks.about("Promises 24 and 25");
        LackFerry x = base();
        due("meet(0, 1)", x.meet(0, 1), 3);
        due("meet(1, 0)", x.meet(1, 0), 3);
        due("meet(1, 2)", x.meet(1, 2), 0);
        due("meet(1, 1)", x.meet(1, 1), NONE);
        due("meet(1, 3)", x.meet(1, 3), NONE);
        due("loads(1)", x.loads(1), 5);
        due("loads(3)", x.loads(3), 14);
        for (int odd : ODD_NUMBERS) {
            due("meet(odd, 0)", x.meet(odd, 0), NONE);
            due("meet(0, odd)", x.meet(0, odd), NONE);
            due("loads(odd)", x.loads(odd == 9 ? 61 : odd), NONE);
        }
        due("loads(0)", x.loads(0), NONE);
        x.days(1);
        due("DAYS, not the DAY", x.meet(0, 1), 2);
        due("from now on", x.loads(2), 9);
        x.die(1);
        due("meet a dead", x.meet(0, 1), NONE);
        due("never", checks.strait("man a 0;man b 1;").meet(0, 1), NONE);
        LackFerry y = checks.strait("good g;stock g 0 100;makes g 0 9;wants g 1 9;eats g 1 9;man a 0;man b 1;");
        atDay(y, 398);
        due("loads(60): till all are over", y.loads(60), 9);
        atDay(y, 400);
        due("loads(1) when all are over", y.loads(1), 0);
        due("meet when all are over", y.meet(0, 1), NONE);
    }

    private void promise26() {
        checks.about("Promise 26");
        LackFerry x = base();
        due("20, 19, 18 on 0", tell(x, "\0\24\23\22").which(), 1);
        due("count(4)", x.count(4), 0);
        due("2, 4, 6 on 1", tell(x, "\1\2\4\6").which(), 2);
        due("0, 0 on 0", tell(x, "\0\0\0").which(), 3);
        due("1, 0 on 0: as much as there is", tell(x, "\0\1\0").which(), 3);
        due("2, 0 on 0", tell(x, "\0\2\0").which(), 2);
        due("2, 3 on 0", tell(x, "\0\2\3").which(), 0);
        due("the last one counts", tell(x, "\0\24\23\21").which(), 0);
        due("no such SHORE", tell(x, "\2\1\1").which(), NONE);
        due("no such SHORE", tell(x, (char) 255 + "\1\1").which(), NONE);
        due("one STOCK", tell(x, "\0\1").which(), NONE);
        due("count(4)", x.count(4), 0);
        due("a SHORE alone", tell(x, "\0").which(), NONE);
        due("nothing", tell(x, "").which(), NONE);
        due("30 STOCKS", tell(x, "\0" + "\0".repeat(30)).which(), 3);
        due("31 STOCKS", tell(x, "\0" + "\0".repeat(31)).which(), NONE);
        due("no GOODS", tell(new LackFerry(), "\0\1\1").which(), 0);
    }

    private void promises27To28() {
        checks.about("Promises 27 and 28");
        due("settles()", base().settles(), 7);
        String meal = "good g;eats g 0 ";
        due("9, 6, 3, 0", checks.strait(meal + "3;stock g 0 9;").settles(), 3);
        due("at the 200th", checks.strait(meal + "1;stock g 0 199;").settles(), 199);
        due("not so soon", checks.strait(meal + "1;stock g 0 200;").settles(), NONE);
        LackFerry x = checks.strait(meal + "1;stock g 0 200;");
        x.days(5);
        due("the DAY, not how many", x.settles(), 200);
        due("to and fro", checks.strait("good g;stock g 0 3;wants g 0 3;wants g 1 3;").settles(), 0);
        due("MEN, too", checks.strait("man a 0;man b 1;misses b a 0;").settles(), 1);
        LackFerry y = base();
        due("hunger(1, 0, 1)", y.hunger(1, 0, 1), 2);
        due("hunger(1, 0, 3)", y.hunger(1, 0, 3), 4);
        due("hunger(0, 0, 3)", y.hunger(0, 0, 3), 0);
        y.days(1);
        due("from now on", y.hunger(1, 0, 2), 2);
        for (int odd : ODD_NUMBERS) {
            due("hunger(odd, 0, 1)", y.hunger(odd, 0, 1), NONE);
            due("hunger(0, odd, 1)", y.hunger(0, odd, 1), NONE);
            due("hunger(0, 0, odd)", y.hunger(0, 0, odd == 9 ? 61 : odd), NONE);
        }
        due("hunger(0, 0, 0)", y.hunger(0, 0, 0), NONE);
        LackFerry z = atDay(checks.strait(meal + "3;"), 398);
        due("settles() on 398", z.settles(), 398);
        due("hunger till all are over", z.hunger(0, 0, 60), 6);
        z.days(1);
        due("settles() on 399: there are no two DAYS", z.settles(), NONE);
        z.days(1);
        due("settles() on 400", z.settles(), NONE);
        due("hunger when all are over", z.hunger(0, 0, 1), 0);
    }

    private void promises29To30() {
        checks.about("Promises 29 and 30");
        LackFerry x = checks.strait("good g;stock g 0 3;wants g 0 3;");
        due("price ahead of any", x.price(0, 0), NONE);
        due("at REST at once", x.prices(), 1);
        due("price(0, 0)", x.price(0, 0), 5);
        LackFerry y = checks.strait("good g;good h;stock g 0 7;wants g 0 3;wants h 1 2;makes h 1 1;");
        due("down to 0", y.prices(), 11);
        due("price(0, 0)", y.price(0, 0), 0);
        due("price(0, 1)", y.price(0, 1), 5);
        due("price(1, 0)", y.price(1, 0), 5);
        due("lacking twice, then too much", y.price(1, 1), 0);
        due("as if", y.now(0), 0);
        for (int odd : ODD_NUMBERS) {
            due("price(odd, 0)", y.price(odd, 0), NONE);
            due("price(0, odd)", y.price(0, odd), NONE);
        }
        due("price(2, 0)", y.price(2, 0), NONE);
        y.waste(0, 0, 7);
        due("by the latest prices()", y.price(0, 0), 0);
        LackFerry z = checks.strait("good g;wants g 0 2;makes g 0 1;eats g 1 1;");
        z.days(1);
        due("a DAY goes by behind each ROUND", z.prices(), 2);
        due("price(0, 0)", z.price(0, 0), 6);
        LackFerry w = base();
        due("60 ROUNDS at most", w.prices(), 60);
        due("price(0, 0)", w.price(0, 0), 55);
        due("price(1, 0)", w.price(1, 0), 65);
        int lastPrice = w.price(1, 1);
        tell(w, "good a;good b;good c;").strait();
        due("of the latest prices()", w.price(1, 0), 65);
        due("it had no third", w.price(2, 0), NONE);
        due("strait() of an empty tape", w.strait(), 0);
        due("of the latest prices(), though there are no GOODS now", w.price(0, 0), 55);
        due("of the latest prices(), though there are no GOODS now", w.price(1, 1), lastPrice);
        for (int odd : ODD_NUMBERS) {
            due("price(odd, 0)", w.price(odd, 0), NONE);
            due("price(0, odd)", w.price(0, odd), NONE);
        }
        due("prices() without GOODS", w.prices(), 1);
        due("the latest had none", w.price(0, 0), NONE);
        tell(w, "good a;").strait();
        due("the latest had none, though there is one now", w.price(0, 0), NONE);
    }

    private void promises31To33() {
        checks.about("Promises 31 to 33");
        LackFerry x = checks.strait("man a 0;man b 0;man c 1;man d 1;man e 0;misses c a 1;misses c b 0;misses d b 0;misses a c 0;misses b c 0;");
        due("dearest(): the first of b and c", x.dearest(), 1);
        due("rats()", x.rats(), 24);
        x.die(3);
        due("dearest()", x.dearest(), 2);
        due("rats(): the living", x.rats(), 16);
        x.die(2);
        due("dearest(): nobody", x.dearest(), NONE);
        due("rats(): a and b are missed by the dead alone", x.rats(), 19);
        due("dearest() of none", new LackFerry().dearest(), NONE);
        LackFerry y = checks.strait("good g;good h;good i;stock g 1 9;stock h 1 9;stock i 1 9;stock i 0 1;");
        due("hoarded(1)", y.hoarded(1), NONE);
        y.hoard(2, 1, 4);
        due("hoarded(1)", y.hoarded(1), 2);
        y.hoard(1, 1, 4);
        due("of like ones the first", y.hoarded(1), 1);
        y.hoard(2, 1, 1);
        due("the most", y.hoarded(1), 2);
        due("hoarded(0)", y.hoarded(0), NONE);
        y.hoard(2, 0, 1);
        due("hoarded(0)", y.hoarded(0), 2);
        y.hoard(0, 1, 9);
        due("hoarded(1)", y.hoarded(1), 0);
        for (int odd : ODD_NUMBERS) {
            due("hoarded(odd)", y.hoarded(odd), NONE);
        }
        due("hoarded(2)", y.hoarded(2), NONE);
    }

    // ---- DRAWN

    private void promises34To35() {
        checks.about("Promises 34 and 35");
        String noMen = "good g;good h;good i;stock g 0 90;stock h 1 60;wants i 0 9;makes i 1 3;wants g 1 20;eats h 0 2;wants h 0 9;";
        int[] seeds = {0, 1, -1, 12345, Integer.MAX_VALUE, Integer.MIN_VALUE};
        for (int k = 0; k < 40; k++) {
            int seed = k < seeds.length ? seeds[k] : 7919 * k;
            String text = k % 2 == 0 ? BASE : noMen;
            LackFerry x = checks.strait(text);
            LackFerry y = checks.strait(text);
            due("drawn(60, " + seed + ")", x.drawn(60, seed), 60);
            new HandDraws().pass(y, 60, seed);
            due("as by hand", allThatIsSo(x).equals(allThatIsSo(y)), true);
            due("undo()", x.undo(), 0);
            due("as told", allThatIsSo(x).equals(allThatIsSo(checks.strait(text))), true);
        }
        LackFerry lone = checks.strait("good g;man a 0;");
        for (int k = 0; k < 9; k++) {
            LackFerry twin = checks.strait("good g;man a 0;");
            lone.drawn(60, 31 * k);
            new HandDraws().pass(twin, 60, 31 * k);
            due("as by hand, with one MAN", allThatIsSo(lone).equals(allThatIsSo(twin)), true);
            lone.undo();
        }
        LackFerry x = base();
        for (int odd : ODD_NUMBERS) {
            due("drawn(odd, 1)", x.drawn(odd == 9 ? 61 : odd, 1), NONE);
            due("odds(odd, 1, 1)", x.odds(odd, 1, 1), NONE);
            due("odds(0, odd, 1)", x.odds(0, odd == 9 ? 31 : odd, 1), NONE);
        }
        due("drawn(0, 1)", x.drawn(0, 1), NONE);
        due("odds(0, 0, 1)", x.odds(0, 0, 1), NONE);
        due("odds(3, 1, 1)", x.odds(3, 1, 1), NONE);
        LackFerry none = checks.strait("man a 0;");
        due("drawn without GOODS", none.drawn(1, 1), NONE);
        due("odds without GOODS", none.odds(0, 1, 1), NONE);
        for (int m = 0; m < 3; m++) {
            oddsByHand(m, 30, Integer.MAX_VALUE - 9);
        }
        x.die(1);
        due("odds of a dead", x.odds(1, 30, 1), 0);
        atDay(x, 399);
        due("drawn(5, 1) on 399", x.drawn(5, 1), 1);
        due("drawn(5, 1) on 400", x.drawn(5, 1), 0);
        due("odds when all are over", x.odds(0, 5, 1), 0);
    }

    private void oddsByHand(int m, int n, int seed) {
        LackFerry x = checks.strait("good g;stock g 0 9;man a 0;man b 1;man c 0;misses b a 19;misses b c 5;misses c b 18;");
        int due = 0;
        x.image(0);
        for (int k = 0; k < n; k++) {
            int before = x.man(m, 3);
            x.drawn(20, seed + k);
            due += x.man(m, 3) > before ? 1 : 0;
            x.restore(0);
        }
        String before = allThatIsSo(x);
        due("odds(" + m + ", 30)", x.odds(m, n, seed), due);
        due("nothing is done by asking", before.equals(allThatIsSo(x)), true);
    }

    // ---- a LOG

    private void logFault(String ahead, String rest, int kind) {
        LackFerry x = base();
        tell(x, "day 3;").log(0);
        String before = allThatIsSo(x);
        due("log " + ahead + " | " + rest, tell(x, ahead + rest).log(1), -2 - ahead.length());
        due("fault of " + ahead + " | " + rest, x.fault(), kind);
        due("count(4)", x.count(4), 0);
        due("it stays", before.equals(allThatIsSo(x)), true);
        due("nothing can be undone", x.undo(), NONE);
        due("logged(2) of the one ahead", x.logged(2), 3);
    }

    private void logRun(LackFerry x, String text, int wrong, int... facts) {
        String before = allThatIsSo(x);
        due("log(0) " + text, tell(x, text).log(0), wrong);
        due("all stays", before.equals(allThatIsSo(x)), true);
        for (int k = 0; k < 4; k++) {
            due("logged(" + k + ") of " + text, x.logged(k), facts[k]);
        }
        due("log(1) " + text, tell(x, text).log(1), wrong);
        for (int k = 0; k < 4; k++) {
            due("logged(" + k + ") of " + text + ", lived", x.logged(k), facts[k]);
        }
        due("now(0)", x.now(0), facts[2]);
        if (facts[1] > 0) {
            due("undo() of a LOG", x.undo() >= 0, true);
        }
        due("undone, or nothing was lived", before.equals(allThatIsSo(x)), true);
    }

    private void promises36To37() {
        checks.about("Promises 36 and 37");
        LackFerry x = base();
        due("logged(0) ahead of any", x.logged(0), NONE);
        due("logged(3) ahead of any", x.logged(3), NONE);
        logRun(x, "", NONE, 0, 0, 0, 0);
        logRun(x, "hoards salt 0 20;bares salt 0 20;wastes salt 0 20;ann dies;day 3;", NONE, 0, 5, 3, 12);
        logRun(x, "hoards salt 0 21;", 0, 1, 0, 0, 0);
        logRun(x, "day 2;hoards salt 0 5;bares salt 0 6;day 5;", 2, 11, 2, 2, 2);
        logRun(x, "wastes salt 1 5;", 0, 21, 0, 0, 0);
        logRun(x, "ann dies;day 1;ann dies;", 2, 31, 2, 1, 2);
        logRun(x, "day 60;day 60;day 60;day 60;day 60;day 60;day 41;", 6, 41, 6, 360, hungerTill(360));
        logRun(x, "day 60;day 60;day 60;day 60;day 60;day 60;day 40;", NONE, 0, 7, 400, hungerTill(400));
        x.days(1);
        logRun(x, "day 2;", NONE, 0, 1, 3, 2);
        x.undo();
        LackFerry y = checks.strait("good g;stock g 0 250;makes g 0 20;");
        logRun(y, "hoards g 0 5;day 60;bares g 0 5;", 2, 12, 2, 60, 0);
        due("log(1)", tell(x, "hoards salt 0 7;hoards salt 0 70;day 5;").log(1), 1);
        due("lived as far as it is not WRONG", x.good(0, 0, 1), 7);
        due("and no farther", x.now(0), 0);
        due("logged(-1)", x.logged(-1), NONE);
        due("logged(4)", x.logged(4), NONE);
        for (int odd : ODD_NUMBERS) {
            tell(x, "day 5;");
            due("log(odd)", x.log(odd), -1000);
            due("the tape stays", x.count(4), 6);
            due("logged(odd)", x.logged(odd), NONE);
        }
        due("logged(0) of the one ahead", x.logged(0), 1);
        logFaults();
    }

    private int hungerTill(int day) {
        return atDay(base(), day).now(6);
    }

    private void logFaults() {
        logFault("", "x dies;", 3);
        logFault("", "salt dies;", 3);
        logFault("", "load 5;", 1);
        logFault("", "dies;", 1);
        logFault("", "5;", 1);
        logFault("", ";", 1);
        logFault("ann ", "day;", 1);
        logFault("ann", ";", 1);
        logFault("ann dies", "", 1);
        logFault("ann dies ", "ann dies;", 1);
        logFault("day ", "0;", 2);
        logFault("day ", "61;", 2);
        logFault("day ", "ann;", 1);
        logFault("hoards ", "ann 0 1;", 3);
        logFault("hoards ", "pepper 0 1;", 3);
        logFault("hoards ", "0 1;", 1);
        logFault("bares salt ", "2 1;", 2);
        logFault("bares salt 1 ", "0;", 2);
        logFault("wastes salt 1 ", "251;", 2);
        logFault("wastes salt 1", ";", 1);
        String forty = "day 1;".repeat(40);
        LackFerry x = base();
        due("40 LINES", tell(x, forty).log(0), NONE);
        due("logged(1)", x.logged(1), 40);
        logFault(forty, "day 61;", 4);
        logFault(forty, "ann", 4);
        logFault(forty, "x dies;", 3);
        logFault(forty, "load 5;", 1);
        due("400 bytes", tell(x, " ".repeat(394) + "day 5;").log(0), NONE);
        logFault(" ".repeat(394) + "day 5;", " ", 1);
        logFault(" ".repeat(395) + "day 5", ";", 1);
        logFault(" ".repeat(395) + "day ", "61;", 2);
    }

    // ---- a SENTENCE

    private void sentenceFault(String ahead, String rest, int kind) {
        LackFerry x = base();
        tell(x, "made 1").sentence();
        due("sentence " + ahead + " | " + rest, tell(x, ahead + rest).sentence(), -1 - ahead.length());
        due("fault of " + ahead + " | " + rest, x.fault(), kind);
        due("count(4)", x.count(4), 0);
        due("it stays", x.said(0), 1);
    }

    private void says(LackFerry x, String text, int ones, int... goods) {
        due("sentence " + text, tell(x, text).sentence(), ones);
        due("fault of " + text, x.fault(), 0);
        due("said(-1) of " + text, x.said(-1), goods.length);
        for (int k = 0; k < goods.length; k++) {
            due("said(" + k + ") of " + text, x.said(k), goods[k]);
        }
        due("said behind the last of " + text, x.said(goods.length), NONE);
    }

    private void promise38() {
        checks.about("Promise 38");
        String eight = "not ".repeat(7);
        LackFerry x = base();
        says(x, eight + "made 1", 8, 0);
        says(x, "(".repeat(7) + "made 1" + ")".repeat(7), 8, 1);
        says(x, "made 1" + " or made 1".repeat(18) + " and made 0", 20, 1);
        says(x, "far<9" + " and far<9".repeat(19), 20, 0, 1);
        says(x, "far<9" + " or far<9".repeat(19), 20, 0, 1);
        sentenceFault("", "", 1);
        sentenceFault(" \n", "", 1);
        sentenceFault("", "or made 1", 1);
        sentenceFault("made 1 ", "made 1", 1);
        sentenceFault("made 1 or", "", 1);
        sentenceFault("made 1 and ", "and made 1", 1);
        sentenceFault("made ", "2", 2);
        sentenceFault("made ", "x", 1);
        sentenceFault("made ", "< 1", 1);
        sentenceFault("near ", "1", 1);
        sentenceFault("near < ", "1000", 1);
        sentenceFault("near < ", "<", 1);
        sentenceFault("near <", "", 1);
        sentenceFault("(made 1", "", 1);
        sentenceFault("made 1", ")", 1);
        sentenceFault("", ")", 1);
        sentenceFault("(", ")", 1);
        sentenceFault("made 1", ";", 1);
        sentenceFault("made 1", ".", 1);
        sentenceFault("", "salt", 1);
        sentenceFault("", "stock 1", 1);
        sentenceFault("", "Made 1", 1);
        sentenceFault("not", "", 1);
        sentenceFault("far<1" + " or far<1".repeat(19) + " or ", "made 5", 4);
        sentenceFault("far<1" + " or far<1".repeat(19) + " or ", "(", 4);
        sentenceFault("far<1" + " or far<1".repeat(19) + " or ", "day", 1);
        sentenceFault(eight + "not ", "not made 1", 4);
        sentenceFault(eight + "(", "made 1)", 4);
        sentenceFault("((((((((", "7", 1);
        sentenceFault("((((((((", "(", 4);
        says(x, " ".repeat(194) + "made 1", 1, 1);
        sentenceFault(" ".repeat(194) + "made 1", " ", 1);
        sentenceFault(" ".repeat(195) + "made ", "1", 1);
        sentenceFault(" ".repeat(194) + "made ", "21", 2);
    }

    private void promise39() {
        checks.about("Promise 39");
        LackFerry x = base();
        due("said(-1) without a SENTENCE", x.said(-1), NONE);
        due("said(0) without a SENTENCE", x.said(0), NONE);
        says(x, "lacked 0", 1, 1);
        says(x, "lacked 1", 1, 0);
        says(x, "made 0", 1);
        says(x, "made 1", 1, 1);
        says(x, "eaten 0", 1, 0, 1);
        says(x, "eaten 1", 1, 0);
        says(x, "hoarded 0 or false 0", 2);
        says(x, "near > 19", 1, 0);
        says(x, "near > 20", 1);
        says(x, "near=20", 1, 0);
        says(x, "near < 20", 1, 1);
        says(x, "far < 4", 1, 1);
        says(x, "far = 4", 1, 0);
        says(x, "number = 1", 1, 1);
        says(x, "number < 1 or number > 0", 2, 0, 1);
        says(x, "number = 0 or number = 1 and number = 0", 3, 0);
        says(x, "(number = 0 or number = 1) and number = 1", 4, 1);
        says(x, "not number = 0 and number = 1", 3, 1);
        says(x, "not (number = 0 or number = 1)", 4);
        says(x, "number = 5 or not number = 0 or number = 6", 4, 1);
        x.hoard(0, 0, 16);
        says(x, "hoarded 0", 1, 0);
        says(x, "false 0", 1, 0);
        says(x, "false 1 or hoarded 1", 2);
        due("said(-2)", x.said(-2), NONE);
        due("said(lowest)", x.said(Integer.MIN_VALUE), NONE);
        due("said(highest)", x.said(Integer.MAX_VALUE), NONE);
        LackFerry y = base();
        y.days(4);
        says(y, "crossed = 8", 1, 0);
        says(y, "crossed = 6", 1, 1);
        LackFerry z = checks.strait("load 40;good g;stock g 0 3;wants g 0 3;wants g 1 5;");
        z.days(3);
        says(z, "crossed = 9", 1, 0);
        says(checks.strait("good g;makes g 0 1;wants g 1 1;eats g 1 1;"), "made 0 and lacked 1 and eaten 1", 3, 0);
        due("said(-1) without GOODS", said(new LackFerry(), "made 1"), 0);
    }

    private int said(LackFerry x, String text) {
        tell(x, text).sentence();
        return x.said(-1);
    }

    private void promises40To41() {
        checks.about("Promises 40 and 41");
        LackFerry x = base();
        for (int odd : ODD_NUMBERS) {
            due("image(odd)", x.image(odd), false);
            due("restore(odd)", x.restore(odd), false);
        }
        due("image(2)", x.image(2), false);
        due("restore(1)", x.restore(1), false);
        due("restore(2)", x.restore(2), false);
        x.hoard(0, 0, 3);
        x.days(3);
        tell(x, "lacked 0").sentence();
        due("image(1)", x.image(1), true);
        due("image() leaves what can be undone", x.undo(), 1);
        due("restore(0)", x.restore(0), false);
        due("restore(1)", x.restore(1), true);
        due("nothing can be undone", x.undo(), NONE);
        due("now(0)", x.now(0), 3);
        String kept = allThatIsSo(x);
        x.prices();
        tell(x, "day 5;").log(0);
        due("strait()", tell(x, "good z;stock z 0 1;man y 1;").strait(), 3);
        due("image(0)", x.image(0), true);
        tell(x, "x").sentence();
        x.feed(1, 2, 3, 4, 5);
        due("restore(1)", x.restore(1), true);
        due("as kept", kept.equals(allThatIsSo(x)), true);
        due("said(-1)", x.said(-1), 1);
        due("the tape stays", x.count(4), 20);
        due("logged(2) stays", x.logged(2), 8);
        due("fault() stays", x.fault(), 1);
        due("price stays", x.price(1, 0), 65);
        x.days(9);
        x.die(0);
        due("restore(1) again", x.restore(1), true);
        due("as kept", kept.equals(allThatIsSo(x)), true);
        due("names are kept", tell(x, "ann dies;hoards salt 0 1;").log(0), NONE);
        due("restore(0)", x.restore(0), true);
        due("no SENTENCE was kept", x.said(-1), NONE);
        due("good(0, 0, 0)", x.good(0, 0, 0), 1);
        due("names are kept", tell(x, "y dies;hoards z 0 1;").log(0), NONE);
        x.waste(0, 0, 1);
        x.image(0);
        x.undo();
        x.restore(0);
        due("the latest image", x.good(0, 0, 0), 0);
        LackFerry y = base();
        says(y, "number < 2 and far < 4", 2, 1);
        y.image(0);
        says(y, "number < 2", 1, 0, 1);
        y.image(1);
        y.restore(0);
        due("the longer SENTENCE", y.said(0), 1);
        due("the longer SENTENCE", y.said(-1), 1);
        y.restore(1);
        due("the shorter SENTENCE", y.said(-1), 2);
    }

    private void promise42() {
        checks.about("Promise 42");
        LackFerry x = base();
        x.feed(0, 0, 0, 0, 0);
        int[] due = {2, 3, 5, 2, 20};
        for (int k = 0; k < due.length; k++) {
            due("count(" + k + ")", x.count(k), due[k]);
        }
        for (int odd : ODD_NUMBERS) {
            due("count(odd)", x.count(odd), NONE);
        }
        due("count(5)", x.count(5), NONE);
        x.die(0);
        due("the dead count", x.count(1), 3);
    }

    public static void main(String[] args) {
        PromiseTest test = new PromiseTest();
        test.promise1();
        test.promise2();
        test.promise3();
        test.promise4();
        test.promise5();
        test.promise6();
        test.promise7();
        test.promise8();
        test.promise9();
        test.promise10();
        test.promises11To13();
        test.promise14();
        test.promise15();
        test.promise16();
        test.promises17To18();
        test.promises19To20();
        test.promises21To22();
        test.promise23();
        test.promises24To25();
        test.promise26();
        test.promises27To28();
        test.promises29To30();
        test.promises31To33();
        test.promises34To35();
        test.promises36To37();
        test.promise38();
        test.promise39();
        test.promises40To41();
        test.promise42();
        test.checks.end();
    }
}
