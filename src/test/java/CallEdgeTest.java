import java.util.NoSuchElementException;
import java.util.function.IntUnaryOperator;

/**
 * The edges of each call, as "Promise 1" to "Promise 42" tell them: each range of numbers on both of its sides, each
 * NONE, each false, each "not as told", and what a refused call leaves as it was.
 */
public final class CallEdgeTest {
    private static final int NONE = LackFerry.NONE;
    private static final int LOWEST = Integer.MIN_VALUE;
    private static final int HIGHEST = Integer.MAX_VALUE;
    /** Two GOODS, three MEN; enough of the first GOOD on both SHORES. */
    private static final String PLAIN = "load 9;good g;good h;stock g 0 250;stock g 1 250;wants g 0 1;eats g 1 1;wants h 1 1;"
        + "man a 0;man b 1;man c 1;misses b a 1;misses a c 0;";
    private final Checks checks = new Checks();

    private CallEdgeTest() {
    }

    private void about(String sentence) {
        checks.about(sentence);
    }

    private void due(String call, long got, long want) {
        checks.due(call, got, want);
    }

    private void due(String call, boolean got, boolean want) {
        checks.due(call, got, want);
    }

    private LackFerry plain() {
        return checks.strait(PLAIN);
    }

    /** From least to most no answer is the one for what is not as told, beside them each is. */
    private void range(String call, int least, int most, int refused, IntUnaryOperator answer) {
        for (int n : new int[] {LOWEST, LOWEST + 1, least - 2, least - 1, most + 1, most + 2, HIGHEST}) {
            due(call + " of " + n, answer.applyAsInt(n), refused);
        }
        due(call + " of " + least + " is as told", answer.applyAsInt(least) != refused, true);
        due(call + " of " + most + " is as told", answer.applyAsInt(most) != refused, true);
    }

    /** The call is refused, and leaves all as it was. */
    private void refused(String call, LackFerry x, int want, IntUnaryOperator answer) {
        String before = Checks.allThatIsSo(x) + x.count(4) + x.fault();
        due(call, answer.applyAsInt(0), want);
        due(call + " changes nothing", before.equals(Checks.allThatIsSo(x) + x.count(4) + x.fault()), true);
        due(call + " leaves nothing to undo", x.undo(), NONE);
    }

    private static int thrown(LackFerry x, int m, int what) {
        try {
            x.man(m, what);
            return 0;
        } catch (NoSuchElementException e) {
            return 1;
        }
    }

    // ---- the tape

    private void promise1() {
        about("1: An empty STRAIT; an empty tape");
        LackFerry x = new LackFerry();
        int[] counts = {0, 0, 10, 0, 0};
        for (int what = 0; what < 5; what++) {
            due("count(" + what + ")", x.count(what), counts[what]);
        }
        for (int what = 0; what < 7; what++) {
            due("now(" + what + ")", x.now(what), 0);
        }
        due("no GOOD", x.good(0, 0, 0), NONE);
        due("no MAN", thrown(x, 0, 0), 1);
        due("end(1)", x.end(1), false);
        due("days(60)", x.days(60), 60);
        due("a ferry without anything", x.now(4), 60);
        due("it is another object's", new LackFerry().now(4), 0);
    }

    private void promise2() {
        about("2: how many it has; NONE, and none come, if it would have more than 940");
        LackFerry x = new LackFerry();
        for (int k = 1; k <= 47; k++) {
            due("feed() " + k, x.feed(0, 0, 0, 0, 0), 20 * k);
        }
        due("behind 940", x.feed(0, 0, 0, 0, 0), NONE);
        due("none come", x.count(4), 940);
        due("end(921)", x.end(921), true);
        due("behind 921", x.feed(0, 0, 0, 0, 0), NONE);
        due("none come", x.count(4), 921);
        due("end(920)", x.end(920), true);
        due("behind 920", x.feed(0, 0, 0, 0, 0), 940);
        due("end(919)", x.end(919), true);
        due("behind 919", x.feed(0, 0, 0, 0, 0), 939);
        about("2: of each number the highest first");
        LackFerry y = checks.strait("good g;makes g 1 1;");
        y.feed(0x01000102, 0x03040506, 0x0708090a, 0x0b0c0d0e, 0x0f101112);
        due("0, 1, .. 18", y.which(), 1);
        y.feed(0x01f0f1f2, 0xf3f4f5f6, 0xf7f8f9fa, 0xfbfcfdfe, 0xff000000);
        y.end(17);
        due("240, 241, .. 255", y.which(), 1);
        y.feed(0x01f0f1f2, 0xf3f4f5f6, 0xf7f8f9fa, 0xfbfcfdfe, 0xff000000);
        y.end(18);
        due("255, 0", y.which(), 0);
        about("2: bytes come behind the tape");
        y.feed(0x01010203, 0, 0, 0, 0);
        y.end(2);
        y.feed(0x02030405, 0, 0, 0, 0);
        y.end(6);
        due("1, 2, 3, 4, 5", y.which(), 1);
    }

    private void promise3() {
        about("3: true; false, if it has not so many, or n is below 0");
        LackFerry x = new LackFerry();
        due("end(0) of none", x.end(0), true);
        due("end(1) of none", x.end(1), false);
        x.feed(0, 0, 0, 0, 0);
        for (int n : new int[] {LOWEST, -1, 21, HIGHEST}) {
            due("end(" + n + ")", x.end(n), false);
            due("it stays", x.count(4), 20);
        }
        due("end(20)", x.end(20), true);
        due("end(19)", x.end(19), true);
        due("end(20) of 19", x.end(20), false);
        due("count(4)", x.count(4), 19);
        due("end(1)", x.end(1), true);
        due("end(0)", x.end(0), true);
        due("count(4)", x.count(4), 0);
    }

    private void promise4() {
        about("4: The tape (empty then, here and below) is the STRAIT now: how many LINES");
        LackFerry x = plain();
        due("a STRAIT of none", x.strait(), 0);
        due("count(0)", x.count(0), 0);
        due("one", Checks.tell(x, "good g;").strait(), 1);
        due("count(4)", x.count(4), 0);
        due("a FAULT at 0", Checks.tell(x, "?").strait(), -1);
        due("count(4)", x.count(4), 0);
        due("it stays", x.count(0), 1);
        due("a FAULT at 900", Checks.tell(x, " ".repeat(940)).strait(), -901);
        due("it stays", x.count(0), 1);
        about("A new STRAIT: DAY 0, nothing hoarded, nobody apart for a DAY yet, no SENTENCE");
        String busy = PLAIN + "eats h 0 3;stock h 0 4;man d 0;";
        LackFerry y = checks.strait(busy);
        String anew = Checks.allThatIsSo(y);
        y.hoard(0, 0, 9);
        y.die(1);
        Checks.tell(y, "number<9").sentence();
        y.days(3);
        due("something crossed", y.crossed(1, 1), 1);
        due("there was HUNGER", y.good(1, 0, 7) > 0, true);
        due("a MAN crossed", y.man(2, 3), 1);
        due("a ferry went without anything", y.now(4) > 0, true);
        Checks.tell(y, busy).strait();
        due("as of a new object", anew.equals(Checks.allThatIsSo(y)), true);
        due("DAY", y.now(0), 0);
        due("HOARD", y.good(0, 0, 1), 0);
        due("apart(0, 1)", y.apart(0, 1), 0);
        due("said(-1)", y.said(-1), NONE);
        due("nothing of it can be undone", y.undo(), NONE);
    }

    private void promise5() {
        about("5: The kind of the FAULT of the latest strait(), log() or sentence()");
        LackFerry x = new LackFerry();
        due("ahead of any", x.fault(), 0);
        Checks.tell(x, "load 0;").strait();
        due("of strait()", x.fault(), 2);
        Checks.tell(x, "x dies;").log(0);
        due("of log(0)", x.fault(), 3);
        Checks.tell(x, "day 61;").log(1);
        due("of log(1)", x.fault(), 2);
        Checks.tell(x, "?").sentence();
        due("of sentence()", x.fault(), 1);
        due("a log() of -1000 leaves it", x.log(2), -1000);
        due("fault()", x.fault(), 1);
        due("a log() of -1000 leaves it", x.log(-1), -1000);
        due("fault()", x.fault(), 1);
        x.which();
        x.days(1);
        due("other calls leave it", x.fault(), 1);
        Checks.tell(x, "day 399;").log(0);
        due("a log() that has one", x.fault(), 2);
        x.log(1);
        due("a log() without one", x.fault(), 0);
        Checks.tell(x, "not ".repeat(9)).sentence();
        due("of sentence()", x.fault(), 4);
        x.strait();
        due("a strait() without one", x.fault(), 0);
        Checks.tell(x, "?").log(0);
        Checks.tell(x, "made 0").sentence();
        due("a sentence() without one", x.fault(), 0);
        Checks.tell(x, "good g;").strait();
        Checks.tell(x, "wastes g 0 1;").log(0);
        due("a WRONG log() has no FAULT", x.fault(), 0);
    }

    // ---- what is so

    private void promises6To10() {
        LackFerry x = plain();
        about("6: NONE: no such ones");
        range("good(n, 0, 0)", 0, 1, NONE, n -> x.good(n, 0, 0));
        range("good(0, n, 0)", 0, 1, NONE, n -> x.good(0, n, 0));
        range("good(0, 0, n)", 0, 7, NONE, n -> x.good(0, 0, n));
        about("7: NONE: no such ones");
        range("crossed(n, 1)", 0, 1, NONE, n -> x.crossed(n, 1));
        range("crossed(0, n)", 0, 1, NONE, n -> x.crossed(0, n));
        about("8: NoSuchElementException: no such ones");
        range("man(n, 0)", 0, 2, 1, n -> thrown(x, n, 0));
        range("man(0, n)", 0, 4, 1, n -> thrown(x, 0, n));
        due("man(3, 5)", thrown(x, 3, 5), 1);
        about("9: NONE: no such ones, alike, one is dead");
        range("apart(n, 1)", 0, 2, NONE, n -> x.apart(n, 1));
        range("apart(1, n)", 0, 2, NONE, n -> x.apart(1, n));
        for (int m = -1; m <= 3; m++) {
            due("alike, " + m, x.apart(m, m), NONE);
        }
        about("10: NONE for another what");
        range("now(n)", 0, 6, NONE, x::now);
        about("A call that throws changes nothing");
        LackFerry y = plain();
        y.feed(1, 2, 3, 4, 5);
        refused("man(3, 0)", y, 1, n -> thrown(y, 3, 0));
        refused("man(0, 5)", y, 1, n -> thrown(y, 0, 5));
    }

    private void promise8() {
        about("8: 0 SHORE (NONE: dead), 1 by whom he is MISSED now, 2 whom he MISSES now, 3 how often he crossed, 4 alive (1, 0)");
        LackFerry x = plain();
        int[][] due = {{0, 0, 4, 0, 1}, {1, 0, 0, 0, 1}, {1, 1, 0, 0, 1}};
        for (int m = 0; m < 3; m++) {
            for (int what = 0; what < 5; what++) {
                due("man(" + m + ", " + what + ")", x.man(m, what), due[m][what]);
            }
        }
        x.days(2);
        due("c crossed on an odd DAY", x.man(2, 3), 1);
        due("c is on SHORE 0", x.man(2, 0), 0);
        x.die(2);
        int[] dead = {NONE, 0, 0, 1, 0};
        for (int what = 0; what < 5; what++) {
            due("dead: man(2, " + what + ")", x.man(2, what), dead[what]);
        }
        due("nobody is thrown for the dead", thrown(x, 2, 4), 0);
        about("9: one is dead");
        due("apart(0, 2)", x.apart(0, 2), NONE);
        due("apart(2, 0)", x.apart(2, 0), NONE);
        due("apart(0, 1)", x.apart(0, 1), 2);
        about("10: MEN on SHORE 0, MEN on SHORE 1, as bits");
        due("now(2)", x.now(2), 1);
        due("now(3)", x.now(3), 2);
        LackFerry y = checks.strait("man a 1;man b 0;man c 1;man d 1;man e 1;man f 1;man g 1;man h 0;");
        due("8 MEN: now(2)", y.now(2), 130);
        due("8 MEN: now(3)", y.now(3), 125);
        range("8 MEN: man(n, 0)", 0, 7, 1, n -> thrown(y, n, 0));
    }

    // ---- what is done

    private void promises11To13() {
        about("11: n (1 to 250); NONE: no such ones");
        LackFerry x = plain();
        range("hoard(0, 0, n)", 1, 250, NONE, n -> x.hoard(0, 0, n));
        range("hoard(n, 0, 9)", 0, 1, NONE, n -> x.hoard(n, 0, 9));
        range("hoard(0, n, 9)", 0, 1, NONE, n -> x.hoard(0, n, 9));
        about("12: n (1 to 250); NONE: no such ones");
        range("bare(0, 0, n)", 1, 250, NONE, n -> x.bare(0, 0, n));
        range("bare(n, 0, 9)", 0, 1, NONE, n -> x.bare(n, 0, 9));
        range("bare(0, n, 9)", 0, 1, NONE, n -> x.bare(0, n, 9));
        about("13: n (1 to 250); NONE: no such ones");
        range("waste(0, 0, n)", 1, 250, NONE, n -> x.waste(0, 0, n));
        range("waste(n, 0, 9)", 0, 1, NONE, n -> x.waste(n, 0, 9));
        range("waste(0, n, 9)", 0, 1, NONE, n -> x.waste(0, n, 9));
        about("11 to 13: all 250 at once");
        LackFerry y = plain();
        due("hoard(0, 1, 250)", y.hoard(0, 1, 250), 0);
        due("bare(0, 1, 250)", y.bare(0, 1, 250), 0);
        due("waste(0, 1, 250)", y.waste(0, 1, 250), 0);
        due("nothing is left", y.good(0, 1, 0) + y.good(0, 1, 1), 0);
        about("11 to 14: what is refused changes nothing");
        LackFerry z = plain();
        refused("hoard(0, 0, 251)", z, NONE, n -> z.hoard(0, 0, 251));
        refused("hoard(1, 0, 1)", z, 1, n -> z.hoard(1, 0, 1));
        refused("bare(0, 0, 1)", z, 1, n -> z.bare(0, 0, 1));
        refused("waste(1, 1, 1)", z, 1, n -> z.waste(1, 1, 1));
        refused("die(3)", z, NONE, n -> z.die(3));
    }

    private void promises14And15() {
        about("14: NONE: no such one");
        LackFerry x = plain();
        range("die(n)", 0, 2, NONE, x::die);
        about("15: n (1 to 60) DAYS go by: how many did; NONE: not as told");
        LackFerry y = plain();
        refused("days(0)", y, NONE, n -> y.days(0));
        refused("days(61)", y, NONE, n -> y.days(61));
        range("days(n)", 1, 60, NONE, y::days);
        due("61 went by", y.now(0), 61);
        LackFerry z = checks.atDay(plain(), 340);
        due("days(60) on 340", z.days(60), 60);
        z.undo();
        z.days(1);
        due("days(60) on 341", z.days(60), 59);
        due("days(1) on 400", z.days(1), 0);
        due("days(60) on 400", z.days(60), 0);
        due("days(0) on 400", z.days(0), NONE);
        due("days(61) on 400", z.days(61), NONE);
    }

    private void promise16() {
        about("16: how many more can be (8 at most are kept); NONE: none is");
        for (int done = 0; done <= 10; done++) {
            LackFerry x = plain();
            for (int k = 0; k < done; k++) {
                x.hoard(0, 0, 1);
            }
            for (int k = Math.min(done, 8) - 1; k >= 0; k--) {
                due("undo() of " + done, x.undo(), k);
            }
            due("undo(), no more, of " + done, x.undo(), NONE);
            due("so many stay", x.good(0, 0, 1), Math.max(0, done - 8));
        }
        about("16: that was done");
        LackFerry x = plain();
        due("bare()", x.bare(0, 0, 1), 1);
        due("none is", x.undo(), NONE);
        x.hoard(0, 0, 1);
        due("bare()", x.bare(0, 0, 2), 1);
        due("hoard()", x.hoard(1, 0, 1), 1);
        due("waste()", x.waste(1, 0, 1), 1);
        due("undo() of the one that was", x.undo(), 0);
        due("HOARD", x.good(0, 0, 1), 0);
        x.die(0);
        due("die() again", x.die(0), 1);
        due("undo() of the one that was", x.undo(), 0);
        due("he lives", x.man(0, 4), 1);
        about("16: days() above 0, drawn() above 0");
        LackFerry y = checks.atDay(plain(), 399);
        y.days(60);
        due("days(1)", y.days(1), 0);
        due("drawn(1, 1)", y.drawn(1, 1), 0);
        due("undo() of the last that went by", y.undo(), 7);
        due("now(0)", y.now(0), 399);
        due("drawn(9, 1)", y.drawn(9, 1), 1);
        due("undo() of drawn()", y.undo(), 7);
        due("now(0)", y.now(0), 399);
        promise16Logs();
    }

    private void promise16Logs() {
        about("16: a LOG that was lived");
        LackFerry x = plain();
        Checks.tell(x, "day 3;").log(0);
        due("one that was judged", x.undo(), NONE);
        Checks.tell(x, "").log(1);
        due("one without LINES", x.undo(), NONE);
        Checks.tell(x, "bares g 0 1;day 3;").log(1);
        due("one of which no LINE was", x.undo(), NONE);
        Checks.tell(x, "day 61;").log(1);
        due("one with a FAULT", x.undo(), NONE);
        Checks.tell(x, "day 3;");
        x.log(2);
        due("one with another lives", x.undo(), NONE);
        x.log(1);
        due("one that was", x.undo(), 0);
        due("now(0)", x.now(0), 0);
        Checks.tell(x, "day 3;hoards g 0 9;a dies;bares g 0 10;").log(1);
        due("now(0)", x.now(0), 3);
        due("one that was, as far as it is not WRONG, at once", x.undo(), 0);
        due("as it was", Checks.allThatIsSo(x).equals(Checks.allThatIsSo(plain())), true);
        about("16: all that changed is as it was");
        x.days(1);
        String before = Checks.allThatIsSo(x);
        x.drawn(60, 5);
        due("drawn() of 60 DAYS is undone at once", x.undo(), 1);
        due("as it was", before.equals(Checks.allThatIsSo(x)), true);
    }

    private void promises17And18() {
        about("17, 18: NONE: no such one");
        LackFerry x = plain();
        range("lacks(n)", 0, 1, NONE, x::lacks);
        range("falses(n)", 0, 1, NONE, x::falses);
        LackFerry y = checks.strait("good a;good b;good c;good d;good e;good f;stock a 0 1;wants a 0 1;stock f 0 1;wants f 0 1;wants f 1 1;");
        due("lacks(0)", y.lacks(0), 0);
        due("lacks(1)", y.lacks(1), 32);
        y.hoard(0, 0, 1);
        y.hoard(5, 0, 1);
        due("lacks(0)", y.lacks(0), 33);
        due("falses(0)", y.falses(0), 33);
        due("falses(1)", y.falses(1), 0);
    }

    // ---- what would be

    private void promises19And20() {
        about("19: 0: none; all are over: 0");
        LackFerry x = checks.strait("man a 0;man b 1;man c 0;misses b a 60;misses c a 0;");
        due("none", x.going(), 0);
        checks.atDay(x, 60);
        due("a", x.going(), 1);
        LackFerry y = checks.atDay(checks.strait("load 1;man a 0;man b 1;misses b a 0;good g;stock g 0 9;wants g 1 9;eats g 1 9;makes g 0 9;"), 398);
        due("goes(0) on 398", y.goes(0), 1);
        y.days(2);
        due("all are over", y.going(), 0);
        due("all are over", y.goes(0), 0);
        about("20: NONE: no such one");
        LackFerry z = plain();
        range("goes(n)", 0, 1, NONE, z::goes);
    }

    private void promises21To25() {
        about("21: NONE: not so soon, dead, no such one");
        LackFerry x = checks.strait("load 40;good g;good h;stock g 0 9;stock h 0 9;wants g 1 9;wants h 1 9;man a 0;man b 1;man c 0;misses b a 0;misses b c 0;");
        range("crosses(n)", 0, 2, NONE, x::crosses);
        due("never", x.crosses(1), NONE);
        x.die(2);
        due("dead", x.crosses(2), NONE);
        about("22: NONE: not so soon, no such ones");
        range("comes(n, 1)", 0, 1, NONE, n -> x.comes(n, 1));
        for (int n : new int[] {LOWEST, -1, 0, 2, HIGHEST}) {
            due("comes(0, " + n + ")", x.comes(0, n), NONE);
        }
        about("23: n (1 to 250), d (1 to 60); NONE: never, no such ones");
        range("without(n, 1, 1, 1)", 0, 1, NONE, n -> x.without(n, 1, 1, 1));
        for (int n : new int[] {LOWEST, -1, 2, HIGHEST}) {
            due("without(0, " + n + ", 1, 1)", x.without(0, n, 1, 1), NONE);
        }
        LackFerry y = checks.strait("load 40;good g;stock g 0 250;wants g 1 250;");
        range("without(0, 1, n, 60)", 1, 250, NONE, n -> y.without(0, 1, n, 60));
        range("without(0, 1, 1, n)", 1, 60, NONE, n -> y.without(0, 1, 1, n));
        about("24: NONE: no such ones, alike, one is dead");
        LackFerry z = checks.strait("man a 0;man b 0;man c 0;");
        range("meet(n, 1)", 0, 2, NONE, n -> z.meet(n, 1));
        range("meet(1, n)", 0, 2, NONE, n -> z.meet(1, n));
        for (int m = -1; m <= 3; m++) {
            due("alike, " + m, z.meet(m, m), NONE);
        }
        z.die(1);
        due("one is dead", z.meet(0, 1), NONE);
        due("one is dead", z.meet(1, 0), NONE);
        due("the others live", z.meet(2, 0), 0);
        about("25: n (1 to 60); NONE: not as told");
        range("loads(n)", 1, 60, NONE, z::loads);
        due("loads(60)", checks.strait("load 1;good g;stock g 0 250;wants g 1 250;").loads(60), 30);
        due("loads(59)", checks.strait("load 1;good g;stock g 0 250;wants g 1 250;").loads(59), 30);
        due("loads(58)", checks.strait("load 1;good g;stock g 0 250;wants g 1 250;").loads(58), 29);
        about("25: till all are over");
        LackFerry w = checks.atDay(checks.strait("load 1;good g;stock g 0 250;wants g 1 250;"), 396);
        due("loads(3)", w.loads(3), 2);
        due("loads(60)", w.loads(60), 2);
        w.days(4);
        due("loads(60) on 400", w.loads(60), 0);
        due("loads(61) on 400", w.loads(61), NONE);
    }

    private static String stocks(int shore, int... stocks) {
        StringBuilder text = new StringBuilder().append((char) shore);
        for (int stock : stocks) {
            text.append((char) stock);
        }
        return text.toString();
    }

    private void promise26() {
        about("26: a SHORE, then STOCKS, 2 to 30; NONE: not as told");
        LackFerry x = checks.strait("good f;good g;good h;makes g 0 2;eats g 0 1;eats h 0 3;makes f 1 20;");
        for (int n = 0; n <= 33; n++) {
            due(n + " STOCKS", Checks.tell(x, stocks(0, new int[n])).which(), n >= 2 && n <= 30 ? 5 : NONE);
            due("the tape is empty then", x.count(4), 0);
        }
        due("nothing", x.which(), NONE);
        due("940 bytes", Checks.tell(x, "\0".repeat(940)).which(), NONE);
        for (int shore : new int[] {2, 3, 48, 49, 127, 128, 255}) {
            due("SHORE " + shore, Checks.tell(x, stocks(shore, 0, 0)).which(), NONE);
            due("the tape is empty then", x.count(4), 0);
        }
        due("SHORE 1", Checks.tell(x, stocks(1, 0, 0)).which(), 6);
        about("26: each from the one ahead of it: made, eaten as told");
        due("h: 7, 4, 1, 0, 0", Checks.tell(x, stocks(0, 7, 4, 1, 0, 0)).which(), 4);
        due("h: 3, 0", Checks.tell(x, stocks(0, 3, 0)).which(), 4);
        due("h: 4, 0", Checks.tell(x, stocks(0, 4, 0)).which(), 0);
        due("h: 2, 0", Checks.tell(x, stocks(0, 2, 0)).which(), 4);
        due("g: 254, 255", Checks.tell(x, stocks(0, 254, 255)).which(), 2);
        due("f: 235, 255", Checks.tell(x, stocks(1, 235, 255)).which(), 1);
        due("f: 236, 0: 256 is no byte", Checks.tell(x, stocks(1, 236, 0)).which(), 0);
        due("the first STOCK may be any", Checks.tell(x, stocks(0, 200, 200)).which(), 1);
        due("the last that does not go so", Checks.tell(x, stocks(0, 9, 9, 9, 8)).which(), 0);
        due("no GOODS", Checks.tell(new LackFerry(), stocks(0, 0, 0)).which(), 0);
    }

    private void promises27To30() {
        about("28: n (1 to 60); NONE: no such ones");
        LackFerry x = plain();
        range("hunger(n, 0, 1)", 0, 1, NONE, n -> x.hunger(n, 0, 1));
        range("hunger(0, n, 1)", 0, 1, NONE, n -> x.hunger(0, n, 1));
        range("hunger(0, 0, n)", 1, 60, NONE, n -> x.hunger(0, 0, n));
        LackFerry y = checks.strait("good g;eats g 1 2;stock g 1 5;");
        int[] due = {0, 0, 1, 3};
        for (int n = 1; n <= 4; n++) {
            due("hunger(0, 1, " + n + ")", y.hunger(0, 1, n), due[n - 1]);
        }
        due("hunger(0, 1, 60)", y.hunger(0, 1, 60), 115);
        y.days(3);
        due("from now on", y.hunger(0, 1, 1), 2);
        checks.atDay(y, 398);
        due("till all are over", y.hunger(0, 1, 60), 4);
        due("settles() on 398", y.settles(), 398);
        y.days(2);
        due("hunger() on 400", y.hunger(0, 1, 60), 0);
        due("settles() on 400", y.settles(), NONE);
        about("30: NONE: no such ones, or ahead of any");
        LackFerry z = plain();
        due("ahead of any", z.price(0, 0), NONE);
        z.prices();
        range("price(n, 0)", 0, 1, NONE, n -> z.price(n, 0));
        range("price(0, n)", 0, 1, NONE, n -> z.price(0, n));
        int before = z.price(1, 1);
        z.days(9);
        due("by the latest prices()", z.price(1, 1), before);
        Checks.tell(z, "good g;").strait();
        due("by the latest prices(), of another STRAIT", z.price(1, 1), before);
        z.prices();
        due("by the latest prices()", z.price(0, 0), 5);
        due("no such one", z.price(1, 1), NONE);
    }

    private void promises31To33() {
        about("31: of like ones the first; NONE: nobody is missed");
        LackFerry x = checks.strait("man a 0;man b 0;man c 1;man d 1;misses c a 0;misses c b 0;misses d b 2;misses a c 1;misses b c 1;");
        due("a and b, one each: a", x.dearest(), 0);
        x.die(0);
        due("b", x.dearest(), 1);
        x.undo();
        due("nobody", checks.strait("man a 0;man b 0;misses a b 0;").dearest(), NONE);
        due("nobody yet", checks.strait("man a 0;man b 1;misses a b 1;").dearest(), NONE);
        due("the last", checks.strait("man a 0;man b 0;man c 1;misses c a 0;misses a c 0;misses b c 0;").dearest(), 2);
        due("no MEN", new LackFerry().dearest(), NONE);
        about("32: MEN who live and whom nobody would ever miss, wherever they are");
        due("d: missed by nobody", x.rats(), 8);
        x.die(3);
        due("the dead is none", x.rats(), 0);
        x.die(2);
        due("a and b, whom the dead missed", x.rats(), 3);
        due("on one SHORE", checks.strait("man a 0;man b 0;misses a b 60;").rats(), 1);
        due("no MEN", new LackFerry().rats(), 0);
        due("all eight", checks.strait("man a 0;man b 0;man c 0;man d 0;man e 0;man f 0;man g 0;man h 0;").rats(), 255);
        about("33: of like ones the first; NONE: nothing is, no such one");
        LackFerry y = checks.strait("good e;good f;good g;stock e 1 9;stock f 1 9;stock g 1 9;");
        due("nothing is", y.hoarded(1), NONE);
        y.hoard(2, 1, 1);
        due("1 of g", y.hoarded(1), 2);
        due("nothing is on 0", y.hoarded(0), NONE);
        y.hoard(1, 1, 1);
        due("1 of f, 1 of g", y.hoarded(1), 1);
        y.hoard(2, 1, 1);
        due("1 of f, 2 of g", y.hoarded(1), 2);
        y.bare(2, 1, 2);
        y.bare(1, 1, 1);
        due("nothing is any more", y.hoarded(1), NONE);
        for (int n : new int[] {LOWEST, -1, 2, HIGHEST}) {
            due("hoarded(" + n + ")", y.hoarded(n), NONE);
        }
    }

    // ---- DRAWN

    private void promises34And35() {
        about("34: n (1 to 60); NONE: not as told, no GOODS");
        LackFerry x = plain();
        refused("drawn(0, 1)", x, NONE, n -> x.drawn(0, 1));
        refused("drawn(61, 1)", x, NONE, n -> x.drawn(61, 1));
        range("drawn(n, 1)", 1, 60, NONE, n -> x.drawn(n, 1));
        due("61 went by", x.now(0), 61);
        LackFerry bare = checks.strait("man a 0;man b 1;misses a b 0;");
        refused("no GOODS", bare, NONE, n -> bare.drawn(1, 1));
        due("no GOODS", bare.odds(0, 1, 1), NONE);
        checks.atDay(x, 360);
        due("drawn(60, 1) on 360", x.drawn(60, 1), 40);
        due("drawn(60, 1) on 400", x.drawn(60, 1), 0);
        due("drawn(0, 1) on 400", x.drawn(0, 1), NONE);
        for (int seed : new int[] {LOWEST, -1, 0, 1, HIGHEST}) {
            due("any seed", plain().drawn(60, seed), 60);
        }
        about("35: n (1 to 30); NONE: no such ones, no GOODS");
        LackFerry y = plain();
        range("odds(0, n, 1)", 1, 30, NONE, n -> y.odds(0, n, 1));
        range("odds(n, 1, 1)", 0, 2, NONE, n -> y.odds(n, 1, 1));
        due("nothing is done", y.undo(), NONE);
        due("nothing is done", y.now(0), 0);
        due("b, whom nobody misses", y.odds(1, 30, 1), 0);
        y.die(0);
        due("a dead", y.odds(0, 30, 1), 0);
        checks.atDay(y, 400);
        due("all are over", y.odds(2, 30, 1), 0);
    }

    private void oddsDays() {
        about("35: by how many a MAN crosses in 20 DAYS DRAWN from now on");
        int seed = 0;
        while (!bothLive(seed)) {
            seed++;
        }
        String fromOne = "good g;man a 1;man b 0;misses b a ";
        due("on the 20th", checks.strait(fromOne + "19;").odds(0, 1, seed), 1);
        due("on the 22nd", checks.strait(fromOne + "20;").odds(0, 1, seed), 0);
        String fromNought = "good g;man a 0;man b 1;misses b a ";
        due("on the 19th", checks.strait(fromNought + "18;").odds(0, 1, seed), 1);
        LackFerry x = checks.strait(fromNought + "19;");
        due("on the 21st", x.odds(0, 1, seed), 0);
        x.days(1);
        due("from now on: on the 20th", x.odds(0, 1, seed), 1);
        x.days(20);
        due("he crossed ahead of it", x.man(0, 3), 1);
        due("he crosses no more", x.odds(0, 1, seed), 0);
        about("35: Of n seeds x, x and 1, ..");
        for (int first : new int[] {0, -7, HIGHEST - 9}) {
            LackFerry y = checks.strait(fromNought + "18;");
            int sum = 0;
            for (int k = 0; k < 30; k++) {
                due(k + " seeds from " + first, k == 0 ? 0 : y.odds(0, k, first), sum);
                sum += y.odds(0, 1, first + k);
            }
            due("30 seeds from " + first, y.odds(0, 30, first), sum);
            due("by some he does, by some he dies", sum > 0 && sum < 30, true);
        }
    }

    private boolean bothLive(int seed) {
        LackFerry x = checks.strait("good g;man a 0;man b 1;");
        x.drawn(22, seed);
        return x.man(0, 4) == 1 && x.man(1, 4) == 1;
    }

    // ---- a LOG

    private void promises36And37() {
        about("36: -1000: another lives (the tape stays)");
        LackFerry x = plain();
        Checks.tell(x, "day 1;");
        for (int lives : new int[] {LOWEST, -1, 2, 3, HIGHEST}) {
            refused("log(" + lives + ")", x, -1000, n -> x.log(lives));
            due("the tape stays", x.count(4), 6);
            due("ahead of any", x.logged(0), NONE);
        }
        due("log(0)", x.log(0), NONE);
        due("the tape is empty then", x.count(4), 0);
        due("the tape is empty: no LINE", x.log(1), NONE);
        about("36: it is judged, all staying as it is (lives 0)");
        LackFerry y = plain();
        Checks.tell(y, "day 9;hoards g 0 9;a dies;");
        refused("log(0)", y, NONE, n -> {
            int answer = y.log(0);
            Checks.tell(y, "day 9;hoards g 0 9;a dies;");
            return answer;
        });
        about("36: or lived as far as it is not WRONG (1): the LINE that is WRONG");
        Checks.tell(y, "hoards g 0 250;hoards g 0 1;day 1;");
        due("log(1)", y.log(1), 1);
        due("the first was lived", y.good(0, 0, 1), 250);
        due("the third was not", y.now(0), 0);
        due("WRONG at LINE 0", Checks.tell(y, "hoards g 0 1;").log(1), 0);
        due("-2 less the place of a FAULT", Checks.tell(y, "?").log(1), -2);
        due("-2 less the place of a FAULT", Checks.tell(y, " ?").log(0), -3);
        about("37: NONE: another what, or ahead of any");
        range("logged(n)", 0, 3, NONE, y::logged);
        LackFerry z = plain();
        for (int what = -1; what <= 4; what++) {
            due("ahead of any: logged(" + what + ")", z.logged(what), NONE);
        }
        Checks.tell(z, "?").log(0);
        due("the only one had a FAULT", z.logged(0), NONE);
        promise37();
    }

    private void logged(LackFerry x, String text, int wrong, int why, int lines) {
        due("log(0) of " + text, Checks.tell(x, text).log(0), wrong);
        due("logged(0) of " + text, x.logged(0), why);
        due("logged(1) of " + text, x.logged(1), lines);
    }

    private void promise37() {
        about("37: 0 why it was WRONG (0: it was not; as for hoarding, 10 more as for baring, 20 for wasting, 30 for dying; "
            + "41 fewer DAYS are left)");
        LackFerry x = plain();
        logged(x, "hoards g 0 250;", NONE, 0, 1);
        logged(x, "hoards g 0 249;hoards g 0 2;", 1, 1, 1);
        logged(x, "hoards g 0 9;bares g 0 9;", NONE, 0, 2);
        logged(x, "hoards g 0 9;bares g 0 10;", 1, 11, 1);
        logged(x, "wastes g 1 250;", NONE, 0, 1);
        logged(x, "wastes g 1 250;wastes g 1 1;", 1, 21, 1);
        logged(x, "a dies;b dies;", NONE, 0, 2);
        logged(x, "a dies;b dies;a dies;", 2, 31, 2);
        LackFerry y = checks.strait("good g;stock g 0 250;makes g 0 20;");
        logged(y, "hoards g 0 2;day 60;wastes g 0 1;bares g 0 1;", NONE, 0, 4);
        logged(y, "hoards g 0 2;day 60;wastes g 0 1;bares g 0 2;", 3, 12, 3);
        checks.atDay(x, 399);
        logged(x, "day 1;", NONE, 0, 1);
        due("2 the DAY then", x.logged(2), 400);
        logged(x, "day 2;", 0, 41, 0);
        due("2 the DAY then: none of the two goes by", x.logged(2), 399);
        logged(x, "day 1;day 1;", 1, 41, 1);
        due("2 the DAY then", x.logged(2), 400);
        about("37: 3 HUNGER in it");
        LackFerry z = checks.strait("good g;good h;eats g 0 2;eats h 1 1;man m 0;");
        z.days(5);
        logged(z, "day 1;day 2;m dies;m dies;day 4;", 3, 31, 3);
        due("of three DAYS", z.logged(3), 9);
        logged(z, "m dies;", NONE, 0, 1);
        due("of none", z.logged(3), 0);
        about("37: Of the latest log() that had no FAULT (and was not -1000)");
        logged(z, "day 7;", NONE, 0, 1);
        Checks.tell(z, "day 1;?").log(0);
        z.log(9);
        due("logged(2)", z.logged(2), 12);
        due("logged(3)", z.logged(3), 21);
        Checks.tell(z, "").log(0);
        due("logged(1)", z.logged(1), 0);
        due("logged(2)", z.logged(2), 5);
    }

    // ---- a SENTENCE

    private void promises38And39() {
        about("38: how many ONES; -1 less the place of a FAULT: it stays");
        LackFerry x = plain();
        due("a FAULT at 0", x.sentence(), -1);
        due("a FAULT at 1", Checks.tell(x, " ?").sentence(), -2);
        about("39: NONE: there is no SENTENCE");
        for (int k : new int[] {LOWEST, -2, -1, 0, 1, HIGHEST}) {
            due("said(" + k + ")", x.said(k), NONE);
        }
        due("one", Checks.tell(x, "number=1").sentence(), 1);
        due("a FAULT", Checks.tell(x, "number=0 ?").sentence(), -10);
        due("it stays", x.said(0), 1);
        about("39: how many (k NONE), or the k-th. NONE: none such");
        int[] due = {NONE, NONE, 1, 1, NONE, NONE};
        int[] asked = {LOWEST, -2, -1, 0, 1, HIGHEST};
        for (int k = 0; k < asked.length; k++) {
            due("said(" + asked[k] + ")", x.said(asked[k]), due[k]);
        }
        Checks.tell(x, "number<9").sentence();
        due("said(-1)", x.said(-1), 2);
        due("said(0)", x.said(0), 0);
        due("said(1)", x.said(1), 1);
        due("said(2)", x.said(2), NONE);
        Checks.tell(x, "number>9").sentence();
        due("of none: said(-1)", x.said(-1), 0);
        due("of none: said(0)", x.said(0), NONE);
        LackFerry six = checks.strait("good a;good b;good c;good d;good e;good f;");
        Checks.tell(six, "number>4 or number<1").sentence();
        due("said(1)", six.said(1), 5);
        due("said(2)", six.said(2), NONE);
        about("39: by what is so now");
        Checks.tell(x, "hoarded 0").sentence();
        due("said(-1)", x.said(-1), 0);
        x.hoard(0, 0, 1);
        due("said(-1)", x.said(-1), 1);
        x.undo();
        due("said(-1)", x.said(-1), 0);
    }

    // ---- images

    private void promises40And41() {
        about("40: in place k (0, 1): true; false: no such one");
        LackFerry x = plain();
        for (int k : new int[] {LOWEST, -1, 2, HIGHEST}) {
            due("image(" + k + ")", x.image(k), false);
            due("restore(" + k + ")", x.restore(k), false);
        }
        about("41: false: nothing is kept there");
        x.hoard(0, 0, 1);
        for (int k = 0; k < 2; k++) {
            due("restore(" + k + ")", x.restore(k), false);
        }
        due("it leaves what can be undone", x.undo(), 0);
        due("image(1)", x.image(1), true);
        due("restore(0)", x.restore(0), false);
        due("restore(1)", x.restore(1), true);
        due("image(0)", x.image(0), true);
        due("restore(0)", x.restore(0), true);
        about("41: nothing can be undone");
        x.hoard(0, 0, 1);
        x.image(0);
        due("image() leaves what can be", x.undo(), 0);
        x.hoard(0, 0, 2);
        x.restore(2);
        due("a refused restore() leaves what can be", x.undo(), 0);
        x.hoard(0, 0, 3);
        x.restore(0);
        due("nothing can be", x.undo(), NONE);
        due("as kept", x.good(0, 0, 1), 1);
        x.restore(1);
        due("as kept in the other place", x.good(0, 0, 1), 0);
        about("41: the tape, and what other calls told last, stays");
        LackFerry y = plain();
        y.image(0);
        Checks.tell(y, "good z;good y;good x;wants x 0 9;").strait();
        y.prices();
        Checks.tell(y, "day 7;").log(0);
        Checks.tell(y, "x").strait();
        y.feed(1, 2, 3, 4, 5);
        y.restore(0);
        due("count(0)", y.count(0), 2);
        due("the tape", y.count(4), 20);
        due("fault()", y.fault(), 1);
        due("logged(2)", y.logged(2), 7);
        due("price(2, 0)", y.price(2, 0), 65);
        about("40: STRAIT, all that is so and the SENTENCE are kept");
        LackFerry z = plain();
        LackFerry twin = plain();
        Checks.tell(z, "number=1 and lacked 1 or far>9").sentence();
        Checks.tell(twin, "number=1 and lacked 1 or far>9").sentence();
        z.image(1);
        Checks.tell(z, "load 1;man n 0;").strait();
        z.image(0);
        Checks.tell(z, "number=5 or number=6 or number=7").sentence();
        Checks.tell(z, "not not number=8 and number>9").sentence();
        z.restore(1);
        due("as kept", Checks.allThatIsSo(z).equals(Checks.allThatIsSo(twin)), true);
        z.days(3);
        twin.days(3);
        due("as kept, in all that comes of it", Checks.allThatIsSo(z).equals(Checks.allThatIsSo(twin)), true);
        due("names are kept", Checks.tell(z, "a dies;hoards h 0 1;").log(0), 1);
        z.restore(0);
        due("no SENTENCE is kept", z.said(-1), NONE);
        due("count(2)", z.count(2), 1);
        due("names are kept", Checks.tell(z, "n dies;").log(0), NONE);
        due("names of the other are not", Checks.tell(z, "a dies;").log(0), -2);
    }

    private void promise42() {
        about("42: NONE for another what");
        LackFerry x = plain();
        range("count(n)", 0, 4, NONE, x::count);
        int[] due = {2, 3, 9, 2, 0};
        for (int what = 0; what < 5; what++) {
            due("count(" + what + ")", x.count(what), due[what]);
        }
    }

    private void lastCall() {
        about("An object is used for at most 512 calls");
        LackFerry x = new LackFerry();
        x.feed(0x676f6f64, 0x20733b73, 0x746f636b, 0x20732030, 0x20373b00);
        x.end(19);
        due("the third call", x.strait(), 2);
        for (int calls = 4; calls < 512; calls++) {
            due("call " + calls, calls % 2 == 0 ? x.hoard(0, 0, 7) : x.bare(0, 0, 7), 0);
        }
        due("the 512th", x.undo(), 7);
    }

    public static void main(String[] args) {
        CallEdgeTest test = new CallEdgeTest();
        test.promise1();
        test.promise2();
        test.promise3();
        test.promise4();
        test.promise5();
        test.promises6To10();
        test.promise8();
        test.promises11To13();
        test.promises14And15();
        test.promise16();
        test.promises17And18();
        test.promises19And20();
        test.promises21To25();
        test.promise26();
        test.promises27To30();
        test.promises31To33();
        test.promises34And35();
        test.oddsDays();
        test.promises36And37();
        test.promises38And39();
        test.promises40And41();
        test.promise42();
        test.lastCall();
        test.checks.end();
    }
}
