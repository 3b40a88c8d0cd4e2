/**
 * The edges of the three sorts of texts, as "Terms" tells them: for each sentence the last that is as told and the
 * first that is not, on both sides, with the place and the kind of the FAULT.
 */
public final class TextEdgeTest {
    private static final int NONE = LackFerry.NONE;
    private static final String[] WORDS = {"load", "good", "stock", "wants", "eats", "makes", "man", "misses", "hoards",
        "bares", "wastes", "dies", "day", "or", "and", "not", "lacked", "hoarded", "made", "eaten", "false", "near",
        "far", "crossed", "number"};
    private static final String[] AMOUNTS = {"stock", "wants", "eats", "makes"};
    private static final String[] DEEDS = {"hoards", "bares", "wastes"};
    private static final String[] ON_SHORE = {"lacked", "hoarded", "made", "eaten", "false"};
    private static final String[] COMPARED = {"near", "far", "crossed", "number"};
    private static final String SIX_GOODS = "good a;good b;good c;good d;good e;good f;";
    private static final String EIGHT_MEN = "man n 0;man o 1;man p 0;man q 1;man r 0;man s 1;man t 0;man u 1;";
    /** For LOGS and SENTENCES: enough of g on both SHORES. */
    private static final String PLAIN = "good g;stock g 0 250;stock g 1 250;makes g 1 3;man m 0;man q 1;";
    private final Checks checks = new Checks();

    private TextEdgeTest() {
    }

    private void about(String sentence) {
        checks.about("\"" + sentence + "\"");
    }

    // ---- what is read, and what is refused: of a refused text the part ahead of the FAULT is told first

    private LackFerry right(String text, int lines) {
        LackFerry x = new LackFerry();
        checks.due("strait() of " + text, Checks.tell(x, text).strait(), lines);
        checks.due("fault() of " + text, x.fault(), 0);
        checks.due("the tape behind " + text, x.count(4), 0);
        return x;
    }

    /** Whatever was so, what can be undone and what was told last stay. */
    private void wrong(String ahead, String rest, int kind) {
        LackFerry x = checks.strait(PLAIN);
        Checks.tell(x, "made 1").sentence();
        x.hoard(0, 0, 5);
        x.days(1);
        x.prices();
        Checks.tell(x, "day 2;").log(0);
        String before = Checks.allThatIsSo(x);
        String call = "strait() of " + ahead + "|" + rest;
        checks.due(call, Checks.tell(x, ahead + rest).strait(), -1 - ahead.length());
        checks.due("fault() of " + call, x.fault(), kind);
        checks.due("the tape behind " + call, x.count(4), 0);
        checks.due("all stays, " + call, before.equals(Checks.allThatIsSo(x)), true);
        checks.due("price() stays, " + call, x.price(0, 0), 0);
        checks.due("logged(2) stays, " + call, x.logged(2), 3);
        checks.due("undo() of days(), " + call, x.undo(), 1);
        checks.due("undo() of hoard(), " + call, x.undo(), 0);
    }

    private LackFerry rightLog(String text, int answer) {
        LackFerry x = checks.strait(PLAIN);
        checks.due("log(0) of " + text, Checks.tell(x, text).log(0), answer);
        checks.due("fault() of " + text, x.fault(), 0);
        checks.due("the tape behind " + text, x.count(4), 0);
        return x;
    }

    private void wrongLog(String ahead, String rest, int kind) {
        LackFerry x = checks.strait(PLAIN);
        Checks.tell(x, "day 2;").log(0);
        x.hoard(0, 0, 5);
        String before = Checks.allThatIsSo(x);
        String call = "log(1) of " + ahead + "|" + rest;
        checks.due(call, Checks.tell(x, ahead + rest).log(1), -2 - ahead.length());
        checks.due("fault() of " + call, x.fault(), kind);
        checks.due("the tape behind " + call, x.count(4), 0);
        checks.due("all stays, " + call, before.equals(Checks.allThatIsSo(x)), true);
        checks.due("logged(1) stays, " + call, x.logged(1), 1);
        checks.due("logged(2) stays, " + call, x.logged(2), 2);
        checks.due("undo() of hoard(), " + call, x.undo(), 0);
    }

    private LackFerry rightSentence(String text, int ones) {
        LackFerry x = checks.strait(PLAIN);
        checks.due("sentence() of " + text, Checks.tell(x, text).sentence(), ones);
        checks.due("fault() of " + text, x.fault(), 0);
        checks.due("the tape behind " + text, x.count(4), 0);
        return x;
    }

    private void wrongSentence(String ahead, String rest, int kind) {
        LackFerry x = checks.strait(PLAIN);
        String call = "sentence() of " + ahead + "|" + rest;
        checks.due(call, Checks.tell(x, ahead + rest).sentence(), -1 - ahead.length());
        checks.due("no SENTENCE yet, " + call, x.said(-1), NONE);
        Checks.tell(x, "made 1").sentence();
        checks.due(call, Checks.tell(x, ahead + rest).sentence(), -1 - ahead.length());
        checks.due("fault() of " + call, x.fault(), kind);
        checks.due("the tape behind " + call, x.count(4), 0);
        checks.due("the SENTENCE stays, " + call, x.said(-1), 1);
    }

    // ---- TOKENS

    private void blanks() {
        about("with blanks (32, 10) between them or not");
        right("good g;stock g 0 1;", 2);
        right("good g ; stock g 0 1 ; ", 2);
        right("\n\n good\ng\n;\nstock \n g\n0\n1\n;\n", 2);
        right(" ", 0);
        right("\n", 0);
        for (int c : new int[] {0, 9, 11, 13, 31, 33, 127, 128, 160, 255}) {
            wrong("load 5", (char) c + ";", 1);
            wrong("load 5;", "" + (char) c, 1);
        }
        wrong("", "goodg;", 1);
        wrong("good g;", "stockg 0 1;", 1);
    }

    private void words() {
        about("WORDS: small letters, 1 to 7");
        right("good a;good z;good abcdefg;man tuvwxyz 0;", 4);
        wrong("good ", "abcdefgh;", 1);
        wrong("", "loadload 5;", 1);
        for (char c : new char[] {'a' - 1, 'z' + 1, 'A', 'Z', 'a' + 128}) {
            wrong("good ", c + ";", 1);
            wrong("good a", c + ";", 1);
        }
        about("WORDS that are alike but for one letter, or one more, are two");
        right("good abcdefg;good abcdefh;good bbcdefg;good abcdef;man abcde 0;man abcdf 1;", 6);
        right("good loads;good goodie;good goo;good mans;man oad 0;man missess 1;", 6);
    }

    private void numbers() {
        about("NUMBERS: 1 to 3 digits");
        checks.due("count(2)", right("load 7;", 1).count(2), 7);
        checks.due("count(2)", right("load 07;", 1).count(2), 7);
        checks.due("count(2)", right("load 007;", 1).count(2), 7);
        checks.due("good(0, 1, 0)", right("good g;stock g 001 250;", 2).good(0, 1, 0), 250);
        wrong("load ", "0007;", 1);
        wrong("load ", "0000000000000000000000007;", 1);
        wrong("load ", ";", 1);
        wrong("load ", "-7;", 1);
        for (char c : new char[] {'0' - 1, '9' + 1}) {
            wrong("load ", c + ";", 1);
            wrong("load 1", c + ";", 1);
        }
    }

    private void signs() {
        about("; < = > ( ) .");
        rightSentence("(near<300)and(far=250)or(number>0)", 6);
        for (char c : new char[] {':', '?', '\'', '*', '/', ',', '-', '+', '[', '!', '"', '@'}) {
            wrong("load 5", c + ";", 1);
            wrongSentence("near ", c + " 5", 1);
        }
        about(". is a TOKEN that can't come in any text");
        wrong("load 5", ".;", 1);
        wrong("", ".", 1);
        wrongLog("day 5", ".;", 1);
        wrongSentence("made 1", ".", 1);
    }

    private void runs() {
        about("A WORD, NUMBER goes on as long as small letters and digits do; what is not as told is no TOKEN");
        wrong("", "load5;", 1);
        wrong("load ", "5x;", 1);
        wrong("good ", "g5;", 1);
        wrong("good ", "5g;", 1);
        wrong("load ", "41x;", 1);
        wrong("good g;good ", "g1;", 1);
        wrongLog("", "day5;", 1);
        wrongSentence("", "made1", 1);
        wrongSentence("near<", "5or far<5", 1);
    }

    // ---- a STRAIT

    private void straitBytes() {
        about("A STRAIT is a text of at most 900 bytes");
        right("load 5;" + " ".repeat(892), 1);
        right("load 5;" + " ".repeat(893), 1);
        right(" ".repeat(893) + "load 5;", 1);
        right(" ".repeat(900), 0);
        wrong(" ".repeat(900), " ", 1);
        wrong("load 5;" + " ".repeat(893), " ", 1);
        wrong("load 5;" + " ".repeat(893), " ".repeat(40), 1);
        wrong(" ".repeat(893) + "load 5;", "load 5;", 1);
    }

    private void load() {
        about("'load' N (1 to 40; once; 10 without)");
        wrong("load ", "0;", 2);
        checks.due("count(2)", right("load 1;", 1).count(2), 1);
        checks.due("count(2)", right("load 40;", 1).count(2), 40);
        wrong("load ", "41;", 2);
        wrong("load ", "999;", 2);
        wrong("load 40;", "load 40;", 3);
        wrong("load 40;good g;", "load", 3);
        checks.due("count(2)", right("", 0).count(2), 10);
        checks.due("count(2)", right("good g;", 1).count(2), 10);
        LackFerry x = right("load 40;", 1);
        checks.due("a new STRAIT without", Checks.tell(x, "good g;").strait(), 1);
        checks.due("count(2)", x.count(2), 10);
    }

    private void amounts() {
        about("SHORE 0 or 1; 0 to 250, 0 to 250, 0 to 20, 0 to 20");
        int[] most = {250, 250, 20, 20};
        int[] what = {0, 2, 3, 4};
        for (int k = 0; k < 4; k++) {
            for (int shore = 0; shore < 2; shore++) {
                String line = "good g;" + AMOUNTS[k] + " g " + shore + " ";
                checks.due("good() of " + line + 0, right(line + "0;", 2).good(0, shore, what[k]), 0);
                checks.due("good() of " + line + 1, right(line + "1;", 2).good(0, shore, what[k]), 1);
                LackFerry x = right(line + most[k] + ";", 2);
                checks.due("good() of " + line + most[k], x.good(0, shore, what[k]), most[k]);
                checks.due("0 without, " + line, x.good(0, 1 - shore, what[k]), 0);
                wrong(line, most[k] + 1 + ";", 2);
                wrong(line, "999;", 2);
                wrong(line, "x;", 1);
            }
            wrong("good g;" + AMOUNTS[k] + " g ", "2 1;", 2);
            wrong("good g;" + AMOUNTS[k] + " g ", "999 1;", 2);
        }
        about("0 without");
        LackFerry x = right("good g;good h;stock g 0 9;wants g 0 9;eats g 0 9;makes g 0 9;", 6);
        for (int k = 0; k < 4; k++) {
            checks.due("on the other SHORE", x.good(0, 1, what[k]), 0);
            checks.due("of the other GOOD", x.good(1, 0, what[k]), 0);
        }
        checks.due("a new STRAIT without", Checks.tell(x, "good g;").strait(), 1);
        for (int k = 0; k < 4; k++) {
            checks.due("what an earlier STRAIT told", x.good(0, 0, what[k]), 0);
        }
    }

    private void amountsOnce() {
        about("each GOOD on each SHORE once for each of these four");
        StringBuilder all = new StringBuilder(SIX_GOODS.substring(0, 14));
        for (String word : AMOUNTS) {
            all.append(word + " a 0 1;" + word + " a 1 2;" + word + " b 0 3;" + word + " b 1 4;");
        }
        right(all.toString(), 18);
        for (String word : AMOUNTS) {
            for (int shore = 0; shore < 2; shore++) {
                wrong(all + word + " b ", shore + " 1;", 3);
                wrong(all + word + " a ", shore + " 999;", 3);
            }
        }
        wrong("good g;stock g 0 0;stock g ", "0 0;", 3);
        wrong("good g;stock g 0 7;stock g ", "00 7;", 3);
    }

    private void men() {
        about("'man' NAME SHORE");
        checks.due("man(0, 0)", right("man m 0;", 1).man(0, 0), 0);
        checks.due("man(0, 0)", right("man m 1;", 1).man(0, 0), 1);
        wrong("man m ", "2;", 2);
        wrong("man m", ";", 1);
        wrong("man ", "0;", 1);
        wrong("man m 0 ", "0;", 1);
    }

    private void misses() {
        about("'misses' MAN MAN DAYS: 0 to 60");
        String men = "man m 0;man q 1;";
        checks.due("apart for 0 DAYS: MISSED", right(men + "misses m q 0;", 3).man(1, 1), 1);
        LackFerry x = right(men + "misses m q 60;", 3);
        x.days(59);
        checks.due("apart for 59 DAYS", x.man(1, 1), 0);
        x.days(1);
        checks.due("apart for 60 DAYS", x.man(1, 1), 1);
        wrong(men + "misses m q ", "61;", 2);
        wrong(men + "misses m q ", "999;", 2);
        about("unlike; each two once in this order");
        checks.due("count(3)", right(men + "misses m q 1;misses q m 1;", 4).count(3), 2);
        wrong(men + "misses m ", "m 1;", 3);
        wrong(men + "misses q ", "q 99;", 3);
        wrong(men + "misses m q 1;misses m ", "q 1;", 3);
        wrong(men + "misses m q 1;misses q m 1;misses q ", "m 99;", 3);
    }

    private void names() {
        about("NAME: a WORD, none of those told here, in a LOG or a SENTENCE");
        for (String word : WORDS) {
            wrong("good ", word + ";", 1);
            wrong("man ", word + " 0;", 1);
            wrong("good g;stock ", word + " 0 1;", 1);
            wrong("man m 0;misses ", word + " m 1;", 1);
            wrong("man m 0;misses m ", word + " 1;", 1);
            wrongLog("hoards ", word + " 0 1;", 1);
        }
        about("told once");
        wrong("good g;good ", "g;", 3);
        wrong("man m 0;man ", "m 1;", 3);
        wrong("good g;man ", "g 0;", 3);
        wrong("man m 0;good ", "m;", 3);
        wrong("good g;man m 0;good ", "g;", 3);
        about("a NAME not told, or of another sort");
        wrong("good g;eats ", "h 0 1;", 3);
        wrong("good g;man m 0;eats ", "m 0 1;", 3);
        wrong("makes ", "g 0 1;good g;", 3);
        wrong("good g;man m 0;misses ", "g m 1;", 3);
        wrong("good g;man m 0;misses m ", "g 1;", 3);
        wrong("man m 0;misses m ", "q 1;man q 0;", 3);
        wrong("good gg;wants ", "g 0 1;", 3);
    }

    /** Five MEN who all miss one another. */
    private static String twentyMisses() {
        StringBuilder all = new StringBuilder("man a 0;man b 0;man c 0;man d 0;man e 0;man f 0;");
        for (int m = 0; m < 5; m++) {
            for (int o = 0; o < 5; o++) {
                all.append(m == o ? "" : "misses " + (char) ('a' + m) + " " + (char) ('a' + o) + " 1;");
            }
        }
        return all.toString();
    }

    private void many() {
        about("6 GOODS, 8 MEN, 20 'misses' at most");
        checks.due("count(0)", right(SIX_GOODS, 6).count(0), 6);
        wrong(SIX_GOODS, "good g;", 4);
        wrong(SIX_GOODS + "load 5;", "good", 4);
        checks.due("count(1)", right(EIGHT_MEN, 8).count(1), 8);
        wrong(EIGHT_MEN, "man a 0;", 4);
        wrong(EIGHT_MEN, "man n 2;", 4);
        checks.due("both", right(SIX_GOODS + EIGHT_MEN, 14).count(1), 8);
        String misses = twentyMisses();
        checks.due("count(3)", right(misses, 26).count(3), 20);
        wrong(misses, "misses a f 1;", 4);
        wrong(misses, "misses a b 1;", 4);
        wrong(misses, "misses", 4);
        about("GOODS, MEN numbered from 0 each");
        LackFerry x = right("man m 1;good g;man q 0;good h;stock g 0 7;stock h 0 8;", 6);
        checks.due("good(0, 0, 0)", x.good(0, 0, 0), 7);
        checks.due("good(1, 0, 0)", x.good(1, 0, 0), 8);
        checks.due("man(0, 0)", x.man(0, 0), 1);
        checks.due("man(1, 0)", x.man(1, 0), 0);
    }

    /** Each of the four sorts of LINES that may be told once, or so often, is told anew in each text. */
    private void textAfterText() {
        about("what another text told is not told in this one");
        String full = "load 7;" + SIX_GOODS + "stock a 0 1;wants a 0 1;eats a 1 1;makes f 1 1;man x 1;man y 0;misses x y 3;misses y x 0;";
        LackFerry x = new LackFerry();
        for (int k = 0; k < 3; k++) {
            checks.due("a full one", Checks.tell(x, full).strait(), 15);
            checks.due("count(3)", x.count(3), 2);
            checks.due("one with a FAULT at its end", Checks.tell(x, full + "?").strait(), -1 - full.length());
            checks.due("the full one again", Checks.tell(x, full).strait(), 15);
            checks.due("load", x.count(2), 7);
            checks.due("one with a FAULT at its end", Checks.tell(x, full + "?").strait(), -1 - full.length());
            checks.due("a small one", Checks.tell(x, "good x;man a 0;").strait(), 2);
            int[] due = {1, 1, 10, 0};
            for (int what = 0; what < 4; what++) {
                checks.due("count(" + what + ")", x.count(what), due[what]);
            }
            for (int what = 0; what < 8; what++) {
                checks.due("good(0, 0, " + what + ")", x.good(0, 0, what), 0);
                checks.due("good(0, 1, " + what + ")", x.good(0, 1, what), 0);
            }
            checks.due("one with a NAME of another text", Checks.tell(x, "stock a 0 1;").strait(), -7);
            checks.due("a LOG with a NAME of another text", Checks.tell(x, "y dies;").log(0), -2);
            checks.due("an empty one", x.strait(), 0);
        }
        about("what another LOG or SENTENCE told is not told in this one");
        for (int k = 0; k < 3; k++) {
            checks.due("40 LINES", Checks.tell(x, "day 1;".repeat(40)).log(0), NONE);
            checks.due("20 ONES", Checks.tell(x, "far<1" + " or far<1".repeat(19)).sentence(), 20);
            checks.due("40 LINES and a FAULT", Checks.tell(x, "day 1;".repeat(40) + "?").log(0), -242);
            checks.due("20 ONES and a FAULT", Checks.tell(x, "far<1" + " or far<1".repeat(19) + "?").sentence(), -177);
            checks.due("1 LINE", Checks.tell(x, "day 1;").log(0), NONE);
            checks.due("logged(1)", x.logged(1), 1);
            checks.due("1 ONE", Checks.tell(x, "far<1").sentence(), 1);
        }
    }

    // ---- a LOG

    private void logBytes() {
        about("A LOG is a text of at most 400 bytes");
        rightLog("day 5;" + " ".repeat(393), NONE);
        rightLog("day 5;" + " ".repeat(394), NONE);
        rightLog(" ".repeat(394) + "day 5;", NONE);
        checks.due("no LINE", rightLog(" ".repeat(400), NONE).logged(1), 0);
        wrongLog(" ".repeat(400), " ", 1);
        wrongLog("day 5;" + " ".repeat(394), " ", 1);
        wrongLog(" ".repeat(394) + "day 5;", "day 5;", 1);
        wrongLog("day 5;" + " ".repeat(394), " ".repeat(540), 1);
    }

    private void logLines() {
        about("{ LINE ; }, 40 at most");
        checks.due("39 LINES", rightLog("day 1;".repeat(39), NONE).logged(1), 39);
        checks.due("40 LINES", rightLog("day 1;".repeat(40), NONE).logged(1), 40);
        wrongLog("day 1;".repeat(40), "day 1;", 4);
        wrongLog("day 1;".repeat(40), "hoards", 4);
        wrongLog("day 1;".repeat(40), "m dies;", 4);
        wrongLog("day 1;".repeat(40) + " ", "day 61;", 4);
        checks.due("an empty one", rightLog("", NONE).logged(1), 0);
        wrongLog("", ";", 1);
        wrongLog("day 1;", ";", 1);
        wrongLog("day 1", "", 1);
    }

    private void logDeeds() {
        about("( 'hoards' | 'bares' | 'wastes' ) GOOD SHORE N (0 or 1; 1 to 250)");
        for (String deed : DEEDS) {
            for (int shore = 0; shore < 2; shore++) {
                String hoard = deed.equals("bares") ? "hoards g " + shore + " 250;" : "";
                String line = deed + " g " + shore + " ";
                wrongLog(line, "0;", 2);
                rightLog(hoard + line + "1;", NONE);
                rightLog(hoard + line + "250;", NONE);
                wrongLog(line, "251;", 2);
            }
            wrongLog(deed + " g ", "2 1;", 2);
            wrongLog(deed + " ", "m 0 1;", 3);
            wrongLog(deed + " ", "h 0 1;", 3);
            wrongLog(deed + " ", "0 1;", 1);
            wrongLog(deed + " g 0", ";", 1);
        }
        about("MAN 'dies'");
        rightLog("m dies;q dies;", NONE);
        wrongLog("", "g dies;", 3);
        wrongLog("", "x dies;", 3);
        wrongLog("m ", "day 1;", 1);
        wrongLog("m", ";", 1);
        wrongLog("", "dies;", 1);
        for (String word : WORDS) {
            boolean begins = word.equals("hoards") || word.equals("bares") || word.equals("wastes") || word.equals("day");
            wrongLog(begins ? word + " " : "", begins ? "dies;" : word + " dies;", 1);
        }
        about("'day' N (1 to 60)");
        wrongLog("day ", "0;", 2);
        checks.due("day 1", rightLog("day 1;", NONE).logged(2), 1);
        checks.due("day 60", rightLog("day 60;", NONE).logged(2), 60);
        wrongLog("day ", "61;", 2);
    }

    // ---- a SENTENCE

    private void sentenceBytes() {
        about("A SENTENCE is a text of at most 200 bytes");
        rightSentence("made 1" + " ".repeat(193), 1);
        rightSentence("made 1" + " ".repeat(194), 1);
        rightSentence(" ".repeat(194) + "made 1", 1);
        wrongSentence("made 1" + " ".repeat(194), " ", 1);
        wrongSentence(" ".repeat(194) + "made 1", " or made 1", 1);
        wrongSentence(" ".repeat(200), " ", 1);
        wrongSentence(" ".repeat(200), "", 1);
        wrongSentence("made 1" + " ".repeat(194), " ".repeat(740), 1);
    }

    private void sentenceOnes() {
        about("20 ONES");
        String twenty = "far<1" + " or far<1".repeat(19);
        rightSentence("far<1" + " or far<1".repeat(18), 19);
        rightSentence(twenty, 20);
        wrongSentence(twenty + " or ", "far<1", 4);
        wrongSentence(twenty + " and ", "far<1", 4);
        wrongSentence(twenty + " or ", "not far<1", 4);
        wrongSentence(twenty + " or ", "(far<1)", 4);
        about("each not, bracket and other one");
        rightSentence("not made 1", 2);
        rightSentence("(made 1)", 2);
        rightSentence("not (not made 1 or (made 0))", 6);
        String pairs = "not far<1" + " or not far<1".repeat(9);
        rightSentence(pairs, 20);
        wrongSentence(pairs + " or ", "not far<1", 4);
        String odd = "far<1" + " or not far<1".repeat(9);
        rightSentence(odd, 19);
        wrongSentence(odd + " or not ", "far<1", 4);
        wrongSentence(odd + " or (", "far<1)", 4);
        String brackets = "(far<1)" + "or(far<1)".repeat(9);
        rightSentence(brackets, 20);
        wrongSentence(brackets + "or", "(far<1)", 4);
    }

    private void sentenceWithin() {
        about("8 within one another");
        rightSentence("not ".repeat(7) + "made 1", 8);
        wrongSentence("not ".repeat(8), "made 1", 4);
        rightSentence("(".repeat(7) + "made 1" + ")".repeat(7), 8);
        wrongSentence("(".repeat(8), "made 1" + ")".repeat(8), 4);
        rightSentence("not(".repeat(3) + "not near<9" + ")".repeat(3), 8);
        wrongSentence("not(".repeat(4), "near<9" + ")".repeat(4), 4);
        wrongSentence("not ".repeat(8), "not made 1", 4);
        wrongSentence("(".repeat(8), "(", 4);
        about("those beside one another are not within one another");
        rightSentence("not ".repeat(7) + "made 1 or " + "not ".repeat(7) + "made 0", 16);
        rightSentence("(".repeat(7) + "made 1 and made 0 or made 1" + ")".repeat(7) + "or made 0", 11);
        wrongSentence("made 0 and " + "(".repeat(7) + "made 0 or not ", "made 0", 4);
    }

    private void sentenceParts() {
        about("( 'lacked' | 'hoarded' | 'made' | 'eaten' | 'false' ) SHORE");
        for (String word : ON_SHORE) {
            rightSentence(word + " 0", 1);
            rightSentence(word + " 1", 1);
            wrongSentence(word + " ", "2", 2);
            wrongSentence(word + " ", "=1", 1);
            wrongSentence(word + " ", "g", 1);
            wrongSentence(word, "", 1);
        }
        about("( 'near' | 'far' | 'crossed' | 'number' ) SIGN NUMBER. SIGN: < = >");
        for (String word : COMPARED) {
            for (char sign = '<'; sign <= '>'; sign++) {
                rightSentence(word + sign + "0", 1);
                rightSentence(word + sign + "999", 1);
                wrongSentence(word + sign, "1000", 1);
                wrongSentence(word + sign, "g", 1);
                wrongSentence(word + sign, "", 1);
            }
            wrongSentence(word + " ", "1", 1);
            wrongSentence(word, ";1", 1);
            wrongSentence(word, "?1", 1);
            wrongSentence(word + "<", "=1", 1);
        }
        about("COND: ALL { 'or' ALL }. ALL: ONE { 'and' ONE }");
        wrongSentence("", "", 1);
        wrongSentence("", "or made 1", 1);
        wrongSentence("", "and made 1", 1);
        wrongSentence("made 1 or", "", 1);
        wrongSentence("made 1 or ", "and made 1", 1);
        wrongSentence("made 1 and", "", 1);
        wrongSentence("made 1 ", "not made 1", 1);
        wrongSentence("made 1 ", "made 1", 1);
        wrongSentence("made 1 ", "1", 1);
        wrongSentence("not ", "or", 1);
        wrongSentence("not", "", 1);
        wrongSentence("(", ")", 1);
        wrongSentence("(made 1", "", 1);
        wrongSentence("(made 1 ", "made 1)", 1);
        wrongSentence("made 1", ")", 1);
        wrongSentence("(made 1)", ")", 1);
        for (String word : WORDS) {
            boolean begins = " not lacked hoarded made eaten false near far crossed number ".contains(" " + word + " ");
            wrongSentence(begins ? word + " " : "", begins ? ")" : word + " 1", 1);
        }
        wrongSentence("", "g", 1);
    }

    private void sentenceValues() {
        about("its stock on SHORE 0, on SHORE 1; how much of it crossed so far; its number");
        LackFerry x = checks.strait("load 9;good f;good g;stock f 0 4;stock f 1 8;wants f 1 11;wants f 0 2;stock g 0 250;");
        x.days(1);
        x.waste(0, 0, 1);
        x.days(1);
        String[] texts = {"near", "far", "crossed", "number"};
        int[] values = {2, 9, 5, 0};
        for (int k = 0; k < 4; k++) {
            for (int n = Math.max(0, values[k] - 1); n <= values[k] + 1; n++) {
                saysOfFirst(x, texts[k] + "<" + n, values[k] < n);
                saysOfFirst(x, texts[k] + "=" + n, values[k] == n);
                saysOfFirst(x, texts[k] + ">" + n, values[k] > n);
            }
        }
        about("a SENTENCE of 999");
        LackFerry y = checks.strait("good g;stock g 1 250;makes g 1 20;");
        y.days(60);
        saysOfFirst(y, "far=999", true);
        saysOfFirst(y, "far<999", false);
        saysOfFirst(y, "far>998", true);
        saysOfFirst(y, "far>999", false);
    }

    private void sentenceOfLacks() {
        about("there is a lack of it; some of it is hoarded, is made each DAY, is eaten each DAY; the lack is FALSE there");
        for (int shore = 0; shore < 2; shore++) {
            String there = " g " + shore + " ";
            for (int n = 0; n < 2; n++) {
                saysOfFirst(checks.strait("good g;wants" + there + n + ";"), "lacked " + shore, n == 1);
                saysOfFirst(checks.strait("good g;wants" + there + n + ";"), "lacked " + (1 - shore), false);
                saysOfFirst(checks.strait("good g;makes" + there + n + ";"), "made " + shore, n == 1);
                saysOfFirst(checks.strait("good g;makes" + there + n + ";"), "made " + (1 - shore), false);
                saysOfFirst(checks.strait("good g;eats" + there + n + ";"), "eaten " + shore, n == 1);
                saysOfFirst(checks.strait("good g;eats" + there + n + ";"), "eaten " + (1 - shore), false);
            }
            LackFerry x = checks.strait("good g;stock" + there + "4;wants" + there + "3;");
            for (int hoarded = 0; hoarded < 4; hoarded++) {
                saysOfFirst(x, "hoarded " + shore, hoarded > 0);
                saysOfFirst(x, "hoarded " + (1 - shore), false);
                saysOfFirst(x, "lacked " + shore, hoarded > 1);
                saysOfFirst(x, "false " + shore, hoarded > 1);
                saysOfFirst(x, "false " + (1 - shore), false);
                x.hoard(0, shore, 1);
            }
            LackFerry y = checks.strait("good g;stock" + there + "4;wants" + there + "4;");
            y.hoard(0, shore, 2);
            saysOfFirst(y, "false " + shore, true);
            y.waste(0, shore, 1);
            saysOfFirst(y, "false " + shore, false);
            saysOfFirst(y, "lacked " + shore, true);
        }
    }

    private void sentenceJoins() {
        about("ONE: 'not' ONE | ( COND )");
        LackFerry x = checks.strait("good g;");
        String yes = "number=0";
        String no = "number=1";
        saysOfFirst(x, "not " + no, true);
        saysOfFirst(x, "not " + yes, false);
        saysOfFirst(x, "not not " + yes, true);
        saysOfFirst(x, "(not(" + no + ")and " + yes + ")", true);
        saysOfFirst(x, "(" + yes + " or " + yes + " and " + no + ")", true);
        saysOfFirst(x, "(" + yes + " or " + yes + ")and " + no, false);
        saysOfFirst(x, "(" + no + " and " + no + " or " + yes + ")", true);
        saysOfFirst(x, no + " and(" + no + " or " + yes + ")", false);
        saysOfFirst(x, "(not " + yes + " or " + yes + ")", true);
        saysOfFirst(x, "not(" + yes + " or " + yes + ")", false);
        saysOfFirst(x, "(not " + no + " and " + no + ")", false);
        saysOfFirst(x, "not(" + no + " and " + no + ")", true);
    }

    private void saysOfFirst(LackFerry x, String text, boolean isSo) {
        checks.due("sentence() of " + text, Checks.tell(x, text + " and number=0").sentence() > 1, true);
        checks.due("said(-1) of " + text, x.said(-1), isSo ? 1 : 0);
    }

    // ---- FAULTS

    private void faultOrder() {
        about("FAULTS, the first along the text");
        wrong("load ", "41;load 0;", 2);
        wrong("good g;good ", "g;load 0;?", 3);
        wrong(SIX_GOODS, "good a b c ?", 4);
        wrong("load 5;good g;stock g ", "7 999;", 2);
        wrongLog("day ", "61;x dies;?", 2);
        wrongLog("", "x 5", 3);
        wrongSentence("made ", "7 or ?", 2);
        about("of one TOKEN the least");
        wrong("good g;stock g 0 1;stock g ", "2 1;", 2);
        wrong("good g;stock g 0 1;stock g ", "g 1;", 1);
        wrong("man m 0;man q 0;misses m q 1;misses m ", "0", 1);
        wrongLog("day 1;".repeat(40), "x dies;", 3);
        wrongLog("day 1;".repeat(40), "g dies;", 3);
        wrongLog("day 1;".repeat(40), "dies;", 1);
        wrongLog("day 1;".repeat(40), "5;", 1);
        wrongLog("day 1;".repeat(40), "?", 1);
        wrongSentence("far<1" + " or far<1".repeat(19) + " or ", "or", 1);
        wrongSentence("far<1" + " or far<1".repeat(19) + " or", "", 1);
        wrongSentence("not ".repeat(8), ")", 1);
        wrongSentence("not ".repeat(8), "g", 1);
    }

    private void faultAtEnd() {
        about("the end: how many bytes there are");
        String text = "";
        for (String token : "good g ; man m 0 ; man q 1 ; stock g 0 5 ; misses m q 9 ; load 7 ;".split(" ")) {
            text += " " + token;
            if (!token.equals(";")) {
                wrong(text, "", 1);
                wrong(text + " \n ", "", 1);
            }
        }
        wrong("load 5\n\n", "", 1);
        wrong("load 5" + " ".repeat(894), "", 1);
        wrong("load 5" + " ".repeat(894), " ", 1);
        wrongLog("day", "", 1);
        wrongLog("day 5 ", "", 1);
        wrongLog("m", "", 1);
        wrongLog("m dies", "", 1);
        wrongLog("hoards g 0 1" + " ".repeat(388), "", 1);
        wrongSentence(" \n ", "", 1);
        wrongSentence("made 1 or ", "", 1);
        wrongSentence("made 1 or" + " ".repeat(191), "", 1);
        wrongSentence("made 1 or" + " ".repeat(191), " ", 1);
    }

    private void faultAtMostBytes() {
        about("the most bytes told, if there are more and no FAULT is ahead");
        wrong("load 5;" + " ".repeat(893), " load 5;", 1);
        wrong("load 5;" + " ".repeat(893), "41;", 1);
        wrong(" ".repeat(895) + "load ", "41;", 1);
        wrong(" ".repeat(895) + "load ", "5;", 1);
        wrong("load ", "41;" + " ".repeat(893), 2);
        wrong("load 5", "?" + " ".repeat(932), 1);
        wrong("load 5;good g;good ", "g;" + " ".repeat(900), 3);
        wrong(SIX_GOODS, "good g;" + " ".repeat(880), 4);
        wrongLog(" ".repeat(396) + "day ", "61;", 1);
        wrongLog("day ", "61;" + " ".repeat(394), 2);
        wrongSentence(" ".repeat(195) + "made ", "2", 1);
        wrongSentence("made ", "2" + " ".repeat(195), 2);
        about("TOKENS that begin ahead of it are read whole");
        wrong(" ".repeat(894) + "load ", "41;", 2);
        wrong(" ".repeat(894) + "load ", "0001;", 1);
        wrong(" ".repeat(894) + "load 1", "0;", 1);
        wrong(" ".repeat(893) + "load 10", ";", 1);
        wrong(" ".repeat(899), "abcdefgh;", 1);
        wrong(" ".repeat(899), "abcdefg;", 1);
        wrong(" ".repeat(899) + "l", "oad 5;", 1);
        wrong("load 5;" + " ".repeat(892), "load 5;", 3);
        wrong(SIX_GOODS + " ".repeat(857), "good g;", 4);
        wrong("good gg;" + " ".repeat(886) + "good ", "gg;", 3);
        wrong("good gg;" + " ".repeat(886) + "good g", "h;", 1);
        wrongLog(" ".repeat(395) + "day ", "61;", 2);
        wrongLog(" ".repeat(395) + "day 6", "0;", 1);
        wrongLog("day 1;".repeat(40) + " ".repeat(159), "day 1;", 4);
        wrongLog("day 1;".repeat(40) + " ".repeat(160), "day 1;", 1);
        wrongSentence(" ".repeat(194) + "made ", "21", 2);
        wrongSentence(" ".repeat(194) + "made 0", "1", 1);
        wrongSentence("not ".repeat(8) + " ".repeat(167), "made 1", 4);
        wrongSentence("not ".repeat(8) + " ".repeat(168), "made 1", 1);
    }

    public static void main(String[] args) {
        TextEdgeTest test = new TextEdgeTest();
        test.blanks();
        test.words();
        test.numbers();
        test.signs();
        test.runs();
        test.straitBytes();
        test.load();
        test.amounts();
        test.amountsOnce();
        test.men();
        test.misses();
        test.names();
        test.many();
        test.textAfterText();
        test.logBytes();
        test.logLines();
        test.logDeeds();
        test.sentenceBytes();
        test.sentenceOnes();
        test.sentenceWithin();
        test.sentenceParts();
        test.sentenceValues();
        test.sentenceOfLacks();
        test.sentenceJoins();
        test.faultOrder();
        test.faultAtEnd();
        test.faultAtMostBytes();
        test.checks.end();
    }
}
