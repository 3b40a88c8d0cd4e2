/**
 * The edges of what a DAY does and of what is looked for ahead, as "Terms" tells them behind "==== 2." and "==== 3.":
 * for each sentence the last that is as told and the first that is not.
 */
public final class DayEdgeTest {
    private static final int NONE = LackFerry.NONE;
    /** From DAY 100 on there is something lacking on SHORE 1. */
    private static final String LATE = "good g;stock g 0 250;stock g 1 250;eats g 1 1;wants g 1 ";
    /** The same for SHORE 0, one DAY earlier. */
    private static final String SOON = "good g;stock g 1 250;stock g 0 250;eats g 0 1;wants g 0 ";
    private final Checks checks = new Checks();

    private DayEdgeTest() {
    }

    private void about(String sentence) {
        checks.about("\"" + sentence + "\"");
    }

    private void due(String call, long got, long want) {
        checks.due(call, got, want);
    }

    private LackFerry strait(String text) {
        return checks.strait(text);
    }

    private LackFerry passed(String text, int days) {
        LackFerry x = strait(text);
        due("days(" + days + ") of " + text, x.days(days), days);
        return x;
    }

    /** 250 and 749 more, which is 999, and of these so many wasted. */
    private LackFerry withStock(String more, int stock) {
        LackFerry x = passed("good g;stock g 0 250;makes g 0 20;" + more, 60);
        for (int left = x.good(0, 0, 0) - stock; left > 0; left = x.good(0, 0, 0) - stock) {
            x.waste(0, 0, Math.min(left, 250));
        }
        due("STOCK", x.good(0, 0, 0), stock);
        return x;
    }

    // ---- ==== 2.

    private void hoards() {
        about("STOCK is what lies open, a HOARD is not seen");
        LackFerry x = strait("load 40;good g;stock g 0 9;wants g 0 9;wants g 1 9;eats g 0 2;");
        x.hoard(0, 0, 9);
        due("STOCK", x.good(0, 0, 0), 0);
        due("goes(0)", x.goes(0), 0);
        due("LACK", x.good(0, 0, 5), 9);
        x.days(1);
        due("it is not eaten", x.good(0, 0, 7), 2);
        due("it stays", x.good(0, 0, 1), 9);
        due("nothing crossed", x.crossed(0, 1), 0);
        Checks.tell(x, "near=0").sentence();
        due("said(-1)", x.said(-1), 1);
    }

    private void lacks() {
        about("LACK of a GOOD on a SHORE: how much STOCK is below what the SHORE wants");
        for (int shore = 0; shore < 2; shore++) {
            for (int stock = 4; stock <= 6; stock++) {
                LackFerry x = strait("good g;stock g " + shore + " " + stock + ";wants g " + shore + " 5;");
                due("LACK with " + stock + " of 5", x.good(0, shore, 5), stock < 5 ? 1 : 0);
                due("lacks()", x.lacks(shore), stock < 5 ? 1 : 0);
                due("lacks() of the other", x.lacks(1 - shore), 0);
            }
        }
        due("all of it", strait("good g;wants g 1 250;").good(0, 1, 5), 250);
        due("nothing is wanted, nothing is there", strait("good g;").good(0, 1, 5), 0);
        about("FALSE: there is one, and none if the HOARD lay open, too");
        for (int hoard = 1; hoard <= 5; hoard++) {
            LackFerry x = strait("good g;stock g 1 5;wants g 1 3;");
            x.hoard(0, 1, hoard);
            due("5 of 3 wanted, " + hoard + " hoarded", x.good(0, 1, 6), hoard > 2 ? 1 : 0);
            due("falses(1)", x.falses(1), hoard > 2 ? 1 : 0);
        }
        LackFerry x = strait("good g;stock g 1 5;wants g 1 5;");
        due("no LACK", x.good(0, 1, 6), 0);
        x.hoard(0, 1, 2);
        due("LACK of 2, 2 hoarded", x.good(0, 1, 6), 1);
        x.waste(0, 1, 1);
        due("LACK of 3, 2 hoarded", x.good(0, 1, 6), 0);
        due("a LACK, nothing hoarded", strait("good g;wants g 0 1;").good(0, 0, 6), 0);
    }

    private void apart() {
        about("APART: for how many DAYS (at their ends) two MEN have not been on one SHORE");
        LackFerry x = strait("man a 0;man b 1;man c 1;misses b a 2;");
        int[] withB = {0, 1, 2, 0, 0};
        int[] ofTwo = {0, 0, 0, 0, 0};
        for (int day = 0; day < withB.length; day++) {
            due("apart(0, 1) on " + day, x.apart(0, 1), withB[day]);
            due("apart(1, 2) on " + day, x.apart(1, 2), ofTwo[day]);
            x.days(1);
        }
        LackFerry y = strait("man a 0;man b 0;man c 1;misses c a 0;misses b a 3;");
        int[] sinceParted = {0, 1, 2, 3, 0, 1};
        for (int day = 0; day < sinceParted.length; day++) {
            due("apart(0, 1) on " + day, y.apart(0, 1), sinceParted[day]);
            y.days(1);
        }
        LackFerry z = strait("man a 0;man b 1;");
        checks.atDay(z, 400);
        due("apart(0, 1) on 400", z.apart(0, 1), 400);
        about("Then APART of each two who live");
        LackFerry w = strait("man a 0;man b 1;man c 1;");
        w.days(2);
        w.die(1);
        w.days(2);
        due("apart of a dead", w.apart(0, 1), NONE);
        due("apart of the living", w.apart(0, 2), 4);
        due("undo() of days()", w.undo(), 2);
        due("undo() of die()", w.undo(), 1);
        due("apart(0, 1)", w.apart(0, 1), 2);
    }

    private void misses() {
        about("both live, and they are DAYS apart at least");
        for (int days = 0; days <= 3; days++) {
            LackFerry x = strait("man a 0;man b 0;man c 1;misses a c " + days + ";misses b c 60;");
            for (int day = 0; day < 4 && x.man(0, 0) != x.man(2, 0); day++) {
                due(days + " DAYS, on " + day, x.man(0, 2), day >= days ? 4 : 0);
                due("MISSED, " + days + " DAYS, on " + day, x.man(2, 1), day >= days ? 1 : 0);
                x.days(1);
            }
        }
        about("0: as soon as they are on unlike SHORES");
        due("on one SHORE", strait("man a 1;man c 1;misses a c 0;").man(0, 2), 0);
        due("on unlike ones", strait("man a 0;man c 1;misses a c 0;").man(0, 2), 2);
        LackFerry parted = passed("man a 0;man b 0;man c 1;misses c a 0;misses b a 0;", 1);
        due("a went: b MISSES him at once", parted.man(1, 2), 1);
        due("c MISSES him no more", parted.man(2, 2), 0);
        due("the first misses the second, not the other way", strait("man a 0;man c 1;misses a c 0;").man(1, 2), 0);
        LackFerry x = strait("man a 0;man c 1;misses a c 0;");
        x.die(0);
        due("MISSED by a dead", x.man(1, 1), 0);
        due("the dead MISSES", x.man(0, 2), 0);
        due("nobody goes for a dead", x.crosses(1), NONE);
        x.undo();
        x.die(1);
        due("a dead MISSED", x.man(1, 1), 0);
        due("MISSES a dead", x.man(0, 2), 0);
    }

    private void refusedDeeds() {
        about("To HOARD n: 1 there is not so much STOCK");
        LackFerry x = strait("good g;stock g 0 5;stock g 1 9;");
        due("6 of 5", x.hoard(0, 0, 6), 1);
        due("STOCK stays", x.good(0, 0, 0), 5);
        due("HOARD stays", x.good(0, 0, 1), 0);
        due("5 of 5", x.hoard(0, 0, 5), 0);
        due("1 of 0", x.hoard(0, 0, 1), 1);
        about("To BARE n: 1 not so much is hoarded, 2 STOCK would be above 999");
        due("6 of 5", x.bare(0, 0, 6), 1);
        due("STOCK stays", x.good(0, 0, 0), 0);
        due("HOARD stays", x.good(0, 0, 1), 5);
        due("5 of 5", x.bare(0, 0, 5), 0);
        due("1 of 0", x.bare(0, 0, 1), 1);
        LackFerry y = strait("good g;stock g 0 250;makes g 0 20;");
        y.hoard(0, 0, 100);
        y.days(60);
        due("STOCK", y.good(0, 0, 0), 999);
        due("999 and 1", y.bare(0, 0, 1), 2);
        due("not so much is hoarded, and it would be above", y.bare(0, 0, 101), 1);
        y.waste(0, 0, 99);
        due("900 and 100", y.bare(0, 0, 100), 2);
        due("STOCK stays", y.good(0, 0, 0), 900);
        due("HOARD stays", y.good(0, 0, 1), 100);
        due("900 and 99", y.bare(0, 0, 99), 0);
        due("STOCK", y.good(0, 0, 0), 999);
        due("HOARD", y.good(0, 0, 1), 1);
        about("To WASTE n: 1 there is not so much STOCK");
        due("6 of 5", x.waste(0, 0, 6), 1);
        due("STOCK stays", x.good(0, 0, 0), 5);
        due("5 of 5", x.waste(0, 0, 5), 0);
        due("1 of 0", x.waste(0, 0, 1), 1);
        due("the other SHORE", x.good(0, 1, 0), 9);
        about("To DIE: 1 he is dead");
        LackFerry z = strait("man a 0;man b 0;");
        due("a", z.die(0), 0);
        due("a again", z.die(0), 1);
        due("b", z.die(1), 0);
        due("two were done", z.undo(), 1);
    }

    private void ferryWays() {
        about("the ferry goes from SHORE 0 to 1 on even DAYS, from 1 to 0 on odd ones");
        LackFerry x = strait("good f;good g;stock f 0 9;wants f 1 9;stock g 1 9;wants g 0 9;load 1;");
        for (int day = 0; day < 6; day++) {
            due("now(1) on " + day, x.now(1), day % 2);
            due("goes(0) on " + day, x.goes(0), 1 - day % 2);
            due("goes(1) on " + day, x.goes(1), day % 2);
            x.days(1);
            due("crossed(0, 1) behind " + day, x.crossed(0, 1), day / 2 + 1);
            due("crossed(1, 0) behind " + day, x.crossed(1, 0), (day + 1) / 2);
            due("crossed(0, 0) behind " + day, x.crossed(0, 0), 0);
        }
    }

    private void menOnFerry() {
        about("first MEN, by numbers, 2 room each, as long as there is as much");
        int[] bits = {0, 0, 1, 1, 3, 3, 7, 7, 7};
        for (int load = 1; load <= 8; load++) {
            LackFerry x = strait("load " + load + ";good g;stock g 0 9;wants g 1 9;man a 0;man b 0;man c 0;man d 1;"
                + "misses d c 0;misses d b 0;misses d a 0;");
            int men = Integer.bitCount(bits[load]);
            due("going() with room for " + load, x.going(), bits[load]);
            due("goes(0) with room for " + load, x.goes(0), load - 2 * men);
            due("loads(1)", x.loads(1), load);
            x.days(1);
            due("now(3)", x.now(3), bits[load] | 8);
            due("crossed(0, 1)", x.crossed(0, 1), load - 2 * men);
            due("now(5)", x.now(5), load);
        }
        String all = "man a 0;man b 0;man c 0;man d 0;man e 0;man f 0;man g 0;man h 1;";
        for (char c = 'a'; c <= 'g'; c++) {
            all += "misses h " + c + " 0;";
        }
        due("7 MEN in 13", strait("load 13;" + all).going(), 63);
        due("7 MEN in 14", strait("load 14;" + all).going(), 127);
        about("who live there and whom somebody on the other SHORE MISSES");
        LackFerry x = strait("man a 0;man b 1;man c 0;misses b a 0;misses c b 0;");
        due("a, whom b MISSES", x.going(), 1);
        x.die(1);
        due("b is dead", x.going(), 0);
        x.undo();
        x.die(0);
        due("a is dead", x.going(), 0);
        due("he has no room", strait("load 2;man a 0;man b 0;man c 1;misses c a 1;misses c b 0;").going(), 2);
        about("as it was ahead of it");
        LackFerry y = strait("man a 0;man b 0;man c 1;misses c a 0;misses a b 0;");
        due("b is missed when a is over, on the next even DAY", y.going(), 1);
        y.days(1);
        due("not on an odd one", y.going(), 0);
        y.days(1);
        due("b goes", y.going(), 2);
    }

    private void goodsOnFerry() {
        about("as much as there is of STOCK here, as there is a LACK there, as there is room");
        for (int k = 0; k < 27; k++) {
            int stock = 4 + k / 9;
            int lack = 4 + k / 3 % 3;
            int room = 4 + k % 3;
            LackFerry x = strait("load " + room + ";good g;stock g 0 " + stock + ";stock g 1 7;wants g 1 " + (7 + lack) + ";");
            int due = Math.min(stock, Math.min(lack, room));
            due("goes(0) of " + stock + ", " + lack + ", " + room, x.goes(0), due);
            x.days(1);
            due("STOCK here", x.good(0, 0, 0), stock - due);
            due("STOCK there", x.good(0, 1, 0), 7 + due);
            due("crossed(0, 1)", x.crossed(0, 1), due);
        }
        due("no STOCK", strait("good g;wants g 1 1;").goes(0), 0);
        due("no LACK", strait("good g;stock g 0 9;stock g 1 1;wants g 1 1;").goes(0), 0);
        due("more than is wanted", strait("good g;stock g 0 9;stock g 1 2;wants g 1 1;").goes(0), 0);
        about("then GOODS, by numbers");
        LackFerry x = strait("load 5;good e;good f;good g;stock e 0 2;wants e 1 9;stock f 0 9;wants f 1 3;stock g 0 9;wants g 1 9;");
        due("goes(0)", x.goes(0), 2);
        due("goes(1)", x.goes(1), 3);
        due("goes(2): no room is left", x.goes(2), 0);
        LackFerry y = strait("load 6;good e;good f;good g;stock e 0 2;wants e 1 9;stock f 0 9;wants f 1 3;stock g 0 9;wants g 1 9;");
        due("goes(2): room for one", y.goes(2), 1);
        about("crossings of the ferry without anything");
        LackFerry z = strait("good g;stock g 0 1;wants g 1 1;man a 0;man b 1;misses a b 0;");
        int[] empty = {0, 0, 0, 1, 2};
        for (int day = 0; day < empty.length; day++) {
            due("now(4) on " + day, z.now(4), empty[day]);
            z.days(1);
        }
    }

    private void madeAndEaten() {
        about("what is made comes to STOCK (999 at most)");
        for (int stock = 978; stock <= 981; stock++) {
            LackFerry x = withStock("", stock);
            x.days(1);
            due(stock + " and 20", x.good(0, 0, 0), Math.min(999, stock + 20));
        }
        LackFerry x = withStock("eats g 0 3;", 985);
        x.days(1);
        due("made up to 999, then eaten", x.good(0, 0, 0), 996);
        about("then what is eaten goes from it: if there is not as much, STOCK is 0, and what was not there is HUNGER");
        for (int stock = 4; stock <= 6; stock++) {
            for (int shore = 0; shore < 2; shore++) {
                LackFerry y = passed("good g;stock g " + shore + " " + stock + ";eats g " + shore + " 5;", 1);
                due("5 of " + stock, y.good(0, shore, 0), Math.max(0, stock - 5));
                due("HUNGER", y.good(0, shore, 7), Math.max(0, 5 - stock));
                due("HUNGER in all", y.now(6), Math.max(0, 5 - stock));
                due("HUNGER on the other SHORE", y.good(0, 1 - shore, 7), 0);
            }
        }
        due("made first: nobody hungers", passed("good g;makes g 1 5;eats g 1 5;", 3).now(6), 0);
        due("one is not there each DAY", passed("good g;makes g 1 4;eats g 1 5;", 3).now(6), 3);
        due("what came over is eaten", passed("good g;stock g 0 5;wants g 1 5;eats g 1 5;", 1).now(6), 0);
        due("20 of nothing", passed("good g;eats g 1 20;", 1).now(6), 20);
        LackFerry z = passed("good f;good g;eats f 0 2;eats g 1 3;", 2);
        due("HUNGER of one GOOD", z.good(0, 0, 7), 4);
        due("HUNGER of both", z.now(6), 10);
    }

    private void lastDays() {
        about("A DAY (0 to 399; 400: all are over)");
        LackFerry x = checks.atDay(strait("good g;makes g 0 1;wants g 1 20;eats g 1 1;man a 0;man b 1;"), 399);
        int stock = x.good(0, 0, 0);
        due("now(1) on 399", x.now(1), 1);
        due("loads(1) on 399", x.loads(1), 0);
        due("days(1) on 399", x.days(1), 1);
        due("it was a DAY", x.good(0, 0, 0), stock + 1);
        String before = Checks.allThatIsSo(x);
        due("days(1) on 400", x.days(1), 0);
        due("days(60) on 400", x.days(60), 0);
        due("drawn(60, 1) on 400", x.drawn(60, 1), 0);
        checks.due("nothing changed", before.equals(Checks.allThatIsSo(x)), true);
        due("undo() of the 399th", x.undo() >= 0 ? x.now(0) : NONE, 399);
        due("days(60) on 399", x.days(60), 1);
        due("goes(0) on 400", x.goes(0), 0);
        due("going() on 400", x.going(), 0);
        due("a LOG of a DAY on 400", Checks.tell(x, "day 1;").log(0), 0);
        due("logged(0)", x.logged(0), 41);
    }

    // ---- ==== 3.

    private void crossesOfGoods() {
        about("CROSSES: the DAY (from now on, 100 at most) on which something of a GOOD goes over");
        due("to SHORE 1 on the 99th", strait(LATE + "153;").comes(0, 1), 98);
        LackFerry x = strait(LATE + "151;");
        due("to SHORE 1 on the 101st", x.comes(0, 1), NONE);
        x.days(1);
        due("which is the 100th on the next DAY", x.comes(0, 1), 100);
        due("to SHORE 0 on the 100th", strait(SOON + "152;").comes(0, 0), 99);
        LackFerry y = strait(SOON + "150;");
        due("to SHORE 0 on the 102nd", y.comes(0, 0), NONE);
        y.days(1);
        due("on the 101st", y.comes(0, 0), NONE);
        y.days(1);
        due("on the 100th", y.comes(0, 0), 101);
        LackFerry z = strait("good g;stock g 0 1;wants g 1 1;");
        due("on this DAY", z.comes(0, 1), 0);
        due("never to the other SHORE", z.comes(0, 0), NONE);
        z.days(1);
        due("what went does not count", z.comes(0, 1), NONE);
        LackFerry w = checks.atDay(strait("good g;stock g 0 250;makes g 0 1;wants g 1 1;eats g 1 1;"), 398);
        due("on 398", w.comes(0, 1), 398);
        w.days(1);
        due("on 399 there is no even DAY left", w.comes(0, 1), NONE);
        w.days(1);
        due("on 400", w.comes(0, 1), NONE);
        LackFerry v = checks.atDay(strait("good g;stock g 0 3;wants g 0 3;wants g 1 3;"), 399);
        due("to and fro: on 399", v.comes(0, 0), 399);
        v.days(1);
        due("to and fro: on 400", v.comes(0, 0), NONE);
        due("to and fro: on 400", v.comes(0, 1), NONE);
    }

    private void crossesOfMen() {
        about("CROSSES: the DAY (from now on, 100 at most) on which a MAN goes over");
        String toOne = "man e 1;man b 0;man g 0;misses e b 60;misses b g ";
        due("on the 99th", strait(toOne + "38;").crosses(2), 98);
        LackFerry x = strait(toOne + "40;");
        due("on the 101st", x.crosses(2), NONE);
        due("MEET in 101", x.meet(0, 2), NONE);
        x.days(1);
        due("on the 100th", x.crosses(2), 100);
        about("MEET: NONE: not in 100");
        due("MEET in 100", x.meet(0, 2), 100);
        due("MEET in 99", strait(toOne + "38;").meet(0, 2), 99);
        String toNought = "man e 0;man b 1;man g 1;misses e b 60;misses b g ";
        due("on the 100th", strait(toNought + "38;").crosses(2), 99);
        due("MEET in 100", strait(toNought + "38;").meet(2, 0), 100);
        due("on the 102nd", strait(toNought + "39;").crosses(2), NONE);
        due("MEET: they are", strait("man a 1;man b 1;").meet(0, 1), 0);
        due("MEET in 1", strait("man a 0;man b 1;misses b a 0;").meet(0, 1), 1);
        LackFerry y = checks.atDay(strait("man a 0;man b 1;man c 1;"), 400);
        due("MEET on 400, who are", y.meet(1, 2), 0);
        due("MEET on 400, who are not", y.meet(0, 1), NONE);
        LackFerry z = checks.atDay(strait("man a 0;man b 1;man c 0;misses b a 0;misses c a 0;"), 398);
        due("to and fro: on 398", z.crosses(0), 398);
        z.days(1);
        due("to and fro: on 399", z.crosses(0), 399);
        due("MEET of who meet on 400", z.meet(0, 2), 1);
        z.days(1);
        due("to and fro: on 400", z.crosses(0), NONE);
        due("MEET of who would meet on 401", z.meet(0, 1), NONE);
    }

    /** It is never undone by asking. */
    private void without(String text, int n, int d, int want) {
        LackFerry x = strait(text);
        String before = Checks.allThatIsSo(x);
        due("without(0, 1, " + n + ", " + d + ") of " + text, x.without(0, 1, n, d), want);
        checks.due("all stays", before.equals(Checks.allThatIsSo(x)), true);
    }

    private void withouts() {
        about("WITHOUT: the least of STOCK that must be wasted now so that n of it at least come over within d DAYS");
        String text = "load 10;good g;stock g 0 250;stock g 1 50;wants g 1 40;";
        without(text, 1, 1, 11);
        without(text, 10, 1, 20);
        without(text, 11, 1, NONE);
        without(text, 11, 2, NONE);
        without(text, 11, 3, 21);
        without(text, 20, 3, 30);
        without(text, 40, 7, 50);
        without(text, 41, 60, NONE);
        about("nothing need be wasted: 0");
        without("load 10;good g;stock g 0 250;stock g 1 39;wants g 1 40;", 1, 1, 0);
        without("load 10;good g;stock g 0 250;stock g 1 39;wants g 1 40;", 2, 1, 1);
        about("never: there is no more STOCK to waste");
        without("load 40;good g;stock g 0 9;stock g 1 5;wants g 1 5;", 5, 1, 5);
        without("load 40;good g;stock g 0 9;stock g 1 5;wants g 1 5;", 6, 1, NONE);
        without("load 40;good g;stock g 0 9;stock g 1 5;wants g 1 5;", 6, 60, NONE);
        about("so that it comes by what is eaten there");
        without("load 40;good g;stock g 0 250;stock g 1 50;wants g 1 40;eats g 1 1;", 1, 1, 11);
        without("load 40;good g;stock g 0 250;stock g 1 50;wants g 1 40;eats g 1 1;", 1, 11, 1);
        without("load 40;good g;stock g 0 250;stock g 1 50;wants g 1 40;eats g 1 1;", 1, 13, 0);
        about("other GOODS and MEN take room");
        without("load 10;good g;stock g 0 250;stock g 1 50;wants g 1 40;man a 0;man b 1;misses b a 0;", 8, 1, 18);
        without("load 10;good g;stock g 0 250;stock g 1 50;wants g 1 40;man a 0;man b 1;misses b a 0;", 9, 1, NONE);
        about("within d DAYS: the ferry comes to SHORE 1 on even ones, to SHORE 0 on odd ones");
        LackFerry y = strait("load 10;good g;stock g 0 30;stock g 1 30;wants g 0 30;wants g 1 30;");
        for (int day = 0; day < 7; day++) {
            for (int shore = 0; shore < 2; shore++) {
                boolean comes = day % 2 != shore;
                due("1 to SHORE " + shore + " in one on " + day, y.without(0, shore, 1, 1), comes ? 1 : NONE);
                due("10 to SHORE " + shore + " in one on " + day, y.without(0, shore, 10, 1), comes ? 10 : NONE);
                due("10 to SHORE " + shore + " in two on " + day, y.without(0, shore, 10, 2), 10);
                due("11 to SHORE " + shore + " in two on " + day, y.without(0, shore, 11, 2), NONE);
                due("the same ten twice to SHORE " + shore + " in three on " + day, y.without(0, shore, 20, 3), comes ? 10 : NONE);
                due("the same ten thrice to SHORE " + shore + " in six on " + day, y.without(0, shore, 30, 6), 10);
                due("no more to SHORE " + shore + " in six on " + day, y.without(0, shore, 31, 6), NONE);
            }
            y.days(1);
        }
        about("till all are over");
        LackFerry x = checks.atDay(strait("load 10;good g;stock g 0 250;stock g 1 50;wants g 1 40;"), 396);
        due("two crossings to it are left", x.without(0, 1, 20, 60), 30);
        due("more than two", x.without(0, 1, 21, 60), NONE);
    }

    private void settles() {
        about("SETTLES: the first DAY (from now on, 200 at most) at whose beginning STOCKS and MEN are as two DAYS later");
        String meal = "good g;eats g 0 1;stock g 0 ";
        due("at once", strait("good g;stock g 0 9;").settles(), 0);
        due("the 199th", strait(meal + "198;").settles(), 198);
        due("the 200th", strait(meal + "199;").settles(), 199);
        LackFerry x = strait(meal + "200;");
        due("the 201st", x.settles(), NONE);
        x.days(1);
        due("the 200th on the next DAY", x.settles(), 200);
        due("HUNGER does not count", strait("good g;eats g 0 9;").settles(), 0);
        due("STOCK on SHORE 1 does", strait("good g;eats g 1 9;stock g 1 18;").settles(), 2);
        due("STOCK of the last GOOD does", strait("good e;good g;eats g 1 9;stock g 1 18;").settles(), 2);
        due("a MAN to and fro is as two DAYS later", strait("man a 0;man b 1;man c 0;misses b a 0;misses c a 0;").settles(), 0);
        due("till the last MAN went", strait("load 2;man a 1;man b 0;man c 0;misses a b 0;misses a c 0;").settles(), 3);
        LackFerry y = checks.atDay(strait(meal + "250;stock g 1 9;"), 60);
        y.die(0);
        due("250 are eaten in 250", y.settles(), 250);
        LackFerry z = checks.atDay(strait("good g;"), 398);
        due("two DAYS later than 398 all are over", z.settles(), 398);
        z.days(1);
        due("there are no two DAYS behind 399", z.settles(), NONE);
    }

    private void prices() {
        about("PRICES (5 at first), ROUND by ROUND: 1 more where there is a LACK; REST: no PRICE has changed; 60 ROUNDS at most");
        int[][] wantedRoundsPrice = {{0, 1, 5}, {1, 2, 6}, {2, 3, 7}, {58, 59, 63}, {59, 60, 64}, {60, 60, 65}, {61, 60, 65}};
        for (int[] row : wantedRoundsPrice) {
            for (int shore = 0; shore < 2; shore++) {
                LackFerry x = strait("good f;good g;makes g " + shore + " 1;wants g " + shore + " " + row[0] + ";");
                String before = Checks.allThatIsSo(x);
                due("prices() with " + row[0] + " wanted", x.prices(), row[1]);
                due("price() with " + row[0] + " wanted", x.price(1, shore), row[2]);
                due("price() on the other SHORE", x.price(1, 1 - shore), 5);
                due("price() of another GOOD", x.price(0, shore), 5);
                checks.due("as if", before.equals(Checks.allThatIsSo(x)), true);
            }
        }
        about("1 less (0 at least) where there is more than is wanted");
        for (int more = 0; more <= 2; more++) {
            LackFerry x = strait("good g;stock g 1 " + (3 + more) + ";wants g 1 3;");
            due("prices() with " + more + " more", x.prices(), more == 0 ? 1 : 6);
            due("price(0, 1) with " + more + " more", x.price(0, 1), more == 0 ? 5 : 0);
        }
        for (int lasts = 1; lasts <= 7; lasts++) {
            LackFerry x = strait("good g;stock g 0 " + lasts + ";eats g 0 1;");
            due("more for " + lasts + " ROUNDS", x.prices(), Math.min(lasts, 5) + 1);
            due("price(0, 0)", x.price(0, 0), Math.max(0, 5 - lasts));
        }
        about("REST: no PRICE has changed, of no GOOD on no SHORE");
        LackFerry x = strait("good f;good g;stock f 0 5;makes g 1 1;wants g 1 9;");
        due("f rests from the sixth on, g from the tenth", x.prices(), 10);
        due("price(0, 0)", x.price(0, 0), 0);
        due("price(1, 1)", x.price(1, 1), 14);
        about("PRICES when all are over: no DAY goes by any more");
        LackFerry y = checks.atDay(strait("good g;makes g 0 1;wants g 0 250;"), 400);
        due("prices()", y.prices(), 6);
        due("price(0, 0)", y.price(0, 0), 0);
    }

    private void drawnAsByHand(HandDraws hand, String text, int seed, int firstDay) {
        LackFerry x = checks.atDay(strait(text), firstDay);
        LackFerry y = checks.atDay(strait(text), firstDay);
        due("drawn(60, " + seed + ") of " + text, x.drawn(60, seed), Math.min(60, 400 - firstDay));
        hand.pass(y, 60, seed);
        checks.due("as by hand, " + seed + " of " + text, Checks.allThatIsSo(x).equals(Checks.allThatIsSo(y)), true);
    }

    private void drawn() {
        about("DRAWN by a seed x: x * 1103515245 + 12345 (an int, wrapping), the draw is (x >>> 8) % n");
        String small = "good g;stock g 0 60;stock g 1 30;";
        String large = "good a;good b;good c;good d;good e;good f;stock a 0 60;stock f 1 60;wants f 0 9;makes c 1 2;man h 0;man i 1;"
            + "man j 0;man k 1;man l 0;man m 1;man n 0;man o 1;misses h i 3;misses i h 2;";
        HandDraws hand = new HandDraws();
        int[] seeds = {Integer.MIN_VALUE, Integer.MIN_VALUE + 1, -1, 0, 1, Integer.MAX_VALUE - 1, Integer.MAX_VALUE};
        for (int k = 0; k < 20; k++) {
            int seed = k < seeds.length ? seeds[k] : 99991 * k;
            drawnAsByHand(hand, small, seed, 0);
            drawnAsByHand(hand, small + "man a 0;", seed, 0);
            drawnAsByHand(hand, large, seed, 0);
            drawnAsByHand(hand, large, seed, 390);
        }
        about("it is hoarded, bared, wasted, he dies, if it, he can; none: no draw");
        for (int deed = 0; deed < 4; deed++) {
            checks.due("there was one of each that could be, " + deed, hand.done[deed] > 0, true);
            checks.due("there was one of each that could not, " + deed, hand.refused[deed] > 0, true);
        }
        checks.due("there was a draw by which nothing is done", hand.nothingDrawn > 0, true);
        checks.due("there was a draw of all MEN without any", hand.nobodyToDie > 0, true);
    }

    public static void main(String[] args) {
        DayEdgeTest test = new DayEdgeTest();
        test.hoards();
        test.lacks();
        test.apart();
        test.misses();
        test.refusedDeeds();
        test.ferryWays();
        test.menOnFerry();
        test.goodsOnFerry();
        test.madeAndEaten();
        test.lastDays();
        test.crossesOfGoods();
        test.crossesOfMen();
        test.withouts();
        test.settles();
        test.prices();
        test.drawn();
        test.checks.end();
    }
}
