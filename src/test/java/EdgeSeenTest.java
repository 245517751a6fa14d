/** Terms, 1, and promises 1 to 5, 15 to 17, 25, 31, 35, 36 and 41: each boundary of what is there and seen. */
final class EdgeSeenTest {
    private EdgeSeenTest() {
    }

    public static void main(String[] args) {
        newObject();
        newObjectThinks();
        state();
        spears();
        throwers();
        throwersOfThisMeet();
        set();
        gusts();
        rankAndNeeds();
        places();
        ordersLeft();
        rule();
        after();
        record();
        book();
        look();
        Due.finish();
    }

    private static void newObject() {
        for (int what = 0; what <= 11; what++) {
            Due.due("look " + what, new PointFirst().look(what), 0);
        }
        int[] told = {0, 0, 0, 0, 7};
        for (int k = 0; k < 5; k++) {
            Due.due("look " + (20 + k), new PointFirst().look(20 + k), told[k]);
        }
        PointFirst x = new PointFirst();
        for (int what = 0; what < 8; what++) {
            Due.due("nobody, what " + what, x.of(0, what), -1);
        }
        for (int what = 0; what < 9; what++) {
            Due.due("no line, what " + what, x.book(0, what), -100);
        }
        Due.due("no spear", x.at(0, 0), -1);
        Due.due("no place", x.place(0), -1);
        Due.due("no record", x.record(0), -1);
        Due.due("no fault", x.fault(0), 0);
        Due.due("no place of it", x.fault(1), -1);
        Due.due("nothing to undo", x.undo(), false);
        Due.due("no image", x.image(false), false);
        Due.due("no tape", x.end(1), false);
        Due.due("nobody passes", x.pass(), false);
        Due.due("nobody throws", x.throwIt(0, 0, 0, 0), -1);
        Due.due("no turns", x.turnsGo(1), -1);
        Due.due("nobody's power", x.set(5, 0, 1), false);
        Due.due("nobody's wear", x.set(6, 0, 1), false);
        Due.due("days go by", x.days(1), true);
        x.meet();
        Due.due("a meet of nobody", x.look(2), 0);
        Due.due("an image of nothing", x.image(true), true);
        Due.due("to go back to", x.image(false), true);
        Due.due("DAY of it", x.look(4), 1);
        PointFirst y = new PointFirst();
        y.spear(1, 1);
        Due.due("each object by itself", x.look(0), 0);
    }

    private static void newObjectThinks() {
        PointFirst x = new PointFirst();
        Due.due("18", x.fly(0, 0, 0, 0, 0, 0, 0), -10000);
        for (int what = 0; what < 4; what++) {
            Due.due("19", x.angle(0, 0, 0, what), -1);
            Due.due("34", x.path(0, 0, what), -10000);
        }
        Due.due("20", x.right(0, 0), -1);
        Due.due("21", x.winds(0, 0, 0, 0, 0), -1);
        Due.due("22", x.still(0), -1);
        Due.due("23", x.holds(0, 0, 0), -1);
        for (int what = 0; what < 2; what++) {
            Due.due("24", x.chance(0, 0, 0, 0, 0, what), -1);
            Due.due("26", x.waitFor(0, 0, 0, what), -1);
            Due.due("27", x.leastForce(0, 0, 0, what), -1);
            Due.due("29", x.span(0, what), -1);
            Due.due("30", x.train(0, 1, 0, what), -1);
        }
        Due.due("28", x.better(0, 0, 0, 0), -1);
        Due.due("31", x.after(0, 0), -1);
        Due.due("32", x.would(0), -1);
        Due.due("33", x.verdict(0), 1000000000L);
        Due.due("37", x.needed(0, 0, 0, 0), -1);
        Due.due("38", x.rests(0, 0), -1);
        // a spear and nobody, somebody and no spear
        x.spear(0, 0);
        Due.due("24, nobody", x.chance(0, 0, 0, 0, 0, 0), -1);
        Due.due("18, a spear is enough", x.fly(0, 0, 0, 0, 0, 0, 0), 0);
        PointFirst y = new PointFirst();
        y.thrower(60);
        Due.due("24, no spear", y.chance(0, 0, 0, 0, 0, 0), -1);
        Due.due("23, it asks no spear", y.holds(0, 0, 0), 60);
        Due.due("30, nor does it", y.train(0, 1, 0, 0), 60);
        Due.due("10, no spear", y.throwIt(0, 0, 0, 0), -1);
        Due.due("11, a pass asks none", y.pass(), true);
    }

    private static void state() {
        PointFirst x = new PointFirst();
        int was = 0;
        for (int v : new int[] {0, 1, -1, Integer.MAX_VALUE, Integer.MIN_VALUE, 1013904223, 0}) {
            Due.due("what it was", x.state(v), was);
            Due.due("as it is", x.look(6), v);
            Due.due("looked at once more", x.look(6), v);
            was = v;
        }
    }

    private static void spears() {
        PointFirst x = new PointFirst();
        int[][] told = {{0, 0}, {9, 9}, {0, 9}, {9, 0}, {5, 4}, {1, 8}};
        for (int k = 0; k < 6; k++) {
            Due.due("not yet", x.at(k, 0), -1);
            Due.due("its number", x.spear(told[k][0], told[k][1]), k);
            Due.due("how many", x.look(0), k + 1);
        }
        Due.due("there are six", x.spear(5, 5), -1);
        for (int k = 0; k < 6; k++) {
            Due.due("SOFT " + k, x.at(k, 0), told[k][0]);
            Due.due("TIP " + k, x.at(k, 1), told[k][1]);
        }
        Due.due("six still", x.look(0), 6);
        PointFirst y = Due.ready();
        y.throwIt(1, 1, 0, 0);
        Due.due("in the midst of a MEET", y.spear(2, 2), 1);
        y.turnsGo(48);
        Due.due("when it is over", y.spear(3, 3), 2);
    }

    private static void throwers() {
        PointFirst x = new PointFirst();
        int[] powers = {0, 99, 1, 98, 50, 50, 0, 99};
        for (int k = 0; k < 8; k++) {
            Due.due("his number", x.thrower(powers[k]), k);
            Due.due("how many", x.look(1), k + 1);
            int[] want = {powers[k], 0, 0, 0, 1, k == 0 ? 0 : 1, 0, 0};
            for (int what = 0; what < 8; what++) {
                Due.due("a new one, what " + what, x.of(k, what), want[what]);
            }
            Due.due("the next one is not yet", x.of(k + 1, 0), -1);
        }
        Due.due("there are eight", x.thrower(5), -1);
        Due.due("eight still", x.look(1), 8);
    }

    /** None may come behind a THROW or a PASS of this MEET. */
    private static void throwersOfThisMeet() {
        PointFirst x = Due.ready();
        x.pass();
        Due.due("alone, ROUND 1, TURN 0", x.thrower(1), -1);
        Due.due("undone", x.undo(), true);
        Due.due("there was none then", x.thrower(1), 1);
        x.pass();
        Due.due("ROUND 0, TURN 1", x.thrower(1), -1);
        x.meet();
        Due.due("a MEET anew", x.thrower(1), 2);
        x.throwIt(100, 1, 0, 0);
        Due.due("one refused is none", x.thrower(1), 3);
        x.days(1);
        Due.due("a DAY is none", x.thrower(1), 4);
        x.turnsGo(1);
        Due.due("a turn by PLAN is one", x.thrower(1), -1);
        x.turnsGo(48);
        Due.due("the MEET is over", x.thrower(1), -1);
        x.image(true);
        x.meet();
        Due.due("again anew", x.thrower(1), 5);
        x.image(false);
        Due.due("gone back to one that is over", x.thrower(1), -1);
        Due.due("five of them", x.look(1), 5);
    }

    private static int shown(PointFirst x, int what, int who) {
        return what < 5 ? x.look(20 + what) : x.of(who, what - 5);
    }

    private static void set() {
        PointFirst x = new PointFirst();
        for (int k = 0; k < 8; k++) {
            x.thrower(50);
        }
        int[] low = {-20, -20, 0, 0, 1, 0, 0};
        int[] high = {20, 20, 9, 9, 20, 99, 1000};
        for (int what = 0; what < 7; what++) {
            for (int v : new int[] {low[what], low[what] + 1, high[what] - 1, high[what]}) {
                Due.due("set " + what + " to " + v, x.set(what, 7, v), true);
                Due.due("it is " + v, shown(x, what, 7), v);
            }
            Due.due("below", x.set(what, 7, low[what] - 1), false);
            Due.due("above", x.set(what, 7, high[what] + 1), false);
            Due.due("it stays", shown(x, what, 7), high[what]);
        }
        for (int k = 0; k < 7; k++) {
            Due.due("not the others' POWER", x.of(k, 0), 50);
            Due.due("nor WEAR", x.of(k, 1), 0);
        }
        for (int who : new int[] {-1, 8, Integer.MIN_VALUE, Integer.MAX_VALUE}) {
            for (int what = 0; what < 5; what++) {
                Due.due("who is not asked", x.set(what, who, 5), true);
                Due.due("it is 5", x.look(20 + what), 5);
            }
            Due.due("POWER of none", x.set(5, who, 5), false);
            Due.due("WEAR of none", x.set(6, who, 5), false);
        }
        Due.due("the first one", x.set(5, 0, 7), true);
        Due.due("his", x.of(0, 0), 7);
    }

    private static void gusts() {
        PointFirst x = Due.ready();
        Due.due("empty already", x.gust(-100), 0);
        for (int n = 1; n <= 60; n++) {
            Due.due("gust " + n, x.gust(n % 2 == 0 ? -29 : 29), n);
            Due.due("there are", x.look(10), n);
        }
        Due.due("there are sixty", x.gust(0), -1);
        Due.due("sixty still", x.look(10), 60);
        Due.due("they are empty then", x.gust(-100), 0);
        Due.due("none", x.look(10), 0);
        for (int bad : new int[] {-30, 30, -99, -101, 99, Integer.MIN_VALUE, Integer.MAX_VALUE}) {
            Due.due("gust " + bad, x.gust(bad), -1);
        }
        Due.due("none of these", x.look(10), 0);
        Due.due("0 is one", x.gust(0), 1);
    }

    /** BEST 180, 360, 360, 0 by forces 10, 20, 20, and none. */
    private static PointFirst four() {
        PointFirst x = Due.ready();
        x.thrower(99);
        x.thrower(99);
        x.thrower(99);
        x.throwIt(10, 0, 0, 0);
        x.throwIt(20, 0, 0, 0);
        x.throwIt(20, 0, 0, 0);
        x.pass();
        return x;
    }

    private static void rankAndNeeds() {
        PointFirst x = four();
        int[] ranks = {3, 1, 1, 4};
        int[] needs = {181, 1, 1, 361};
        for (int k = 0; k < 4; k++) {
            Due.due("RANK " + k, x.of(k, 4), ranks[k]);
            Due.due("NEEDS " + k, x.of(k, 5), needs[k]);
        }
        Due.law(x, 0, "dip 5;drag 14 when tick=5;", 2);
        x.pass();
        x.pass();
        Due.due("378 less 14", x.throwIt(21, 0, 0, 0), 0);
        Due.due("BEST 364", x.of(2, 2), 364);
        Due.due("ahead alone", x.of(2, 5), 0);
        Due.due("first alone", x.of(2, 4), 1);
        Due.due("the other is second", x.of(1, 4), 2);
        Due.due("and needs 5", x.of(1, 5), 5);
        x.undo();
        Due.law(x, 0, "dip 5;drag 17 when tick=5;", 2);
        x.throwIt(21, 0, 0, 0);
        Due.due("by one cm", x.of(2, 2), 361);
        Due.due("is ahead", x.of(2, 5), 0);
        Due.due("so the other needs 2", x.of(1, 5), 2);
        x.meet();
        for (int k = 0; k < 4; k++) {
            Due.due("all first", x.of(k, 4), 1);
            Due.due("all need 1", x.of(k, 5), 1);
        }
        PointFirst y = Due.ready();
        Due.due("without any others 0", y.of(0, 5), 0);
        Due.due("and first", y.of(0, 4), 1);
    }

    private static void places() {
        PointFirst x = four();
        int[] want = {1, 2, 0, 3};
        for (int i = 0; i < 4; i++) {
            Due.due("PLACE " + i, x.place(i), want[i]);
        }
        Due.due("PLACE 4", x.place(4), -1);
        Due.due("PLACE -1", x.place(-1), -1);
        x.pass();
        x.pass();
        x.pass();
        x.throwIt(10, 0, 0, 0);
        Due.due("as great a one and a lesser number", x.place(2), 0);
        Due.due("as great a one and a greater number", x.place(3), 3);
        x.meet();
        for (int i = 0; i < 4; i++) {
            Due.due("all alike: by number", x.place(i), i);
        }
        Due.due("nobody", new PointFirst().place(0), -1);
    }

    private static void ordersLeft() {
        PointFirst x = Due.ready();
        Due.due("no plan", x.of(0, 6), 0);
        Due.plan(x, 0, "pass;throw 1 at 1 with 0;pass;", 3);
        for (int left = 3; left >= 0; left--) {
            Due.due("left", x.of(0, 6), left);
            x.turnsGo(1);
        }
        Due.due("none is left, not less", x.of(0, 6), 0);
        x.turnsGo(1);
        Due.due("still none", x.of(0, 6), 0);
        x.undo();
        x.undo();
        Due.due("none by what took none", x.of(0, 6), 0);
        x.undo();
        Due.due("one again", x.of(0, 6), 1);
        x.meet();
        Due.due("a MEET anew", x.of(0, 6), 3);
    }

    /** Lines of HOW 0 to 4, each farther than the one before. */
    private static PointFirst lines() {
        PointFirst x = Due.ready();
        x.thrower(99);
        String[] laws = {"dip 5;", "dip 0;", "dip 0-9;", "dip 5;drift 9;"};
        for (int k = 0; k < 4; k++) {
            Due.tell(x, 0, 0, laws[k]);
            Due.due("HOW", x.throwIt(10 + k, 0, 0, 0), k == 0 ? 0 : k + 1);
            x.pass();
        }
        Due.tell(x, 0, 0, Due.DIP);
        Due.law(x, 1, "over 1000;", 1);
        Due.due("HOW", x.throwIt(20, 0, 0, 0), 1);
        Due.law(x, 1, "", 0);
        return x;
    }

    private static void rule() {
        PointFirst x = lines();
        Due.due("of 0 and 2 the greatest", x.of(0, 7), 18 * 11);
        Due.due("without one", x.of(1, 7), 0);
        x.throwIt(11, 0, 0, 0);
        Due.due("his own", x.of(1, 7), 18 * 11);
        x.throwIt(12, 0, 0, 0);
        Due.due("farther GOOD", x.of(0, 7), 18 * 12);
        x.meet();
        Due.due("another MEET of this DAY", x.of(0, 7), 18 * 12);
        x.days(1);
        Due.due("not of yesterday", x.of(0, 7), 0);
        x.throwIt(3, 0, 0, 0);
        Due.due("of today", x.of(0, 7), 54);
        x.undo();
        Due.due("the line undone", x.of(0, 7), 0);
    }

    private static void after() {
        PointFirst x = lines();
        Due.due("none is below ROUND 0", x.after(0, 0), 0);
        for (int r = 1; r <= 6; r++) {
            Due.due("HOW 0 alone, ROUND below " + r, x.after(0, r), 180);
        }
        x.throwIt(7, 0, 0, 0);
        Due.due("ROUND 4 is not below 4", x.after(1, 4), 0);
        Due.due("it is below 5", x.after(1, 5), 126);
        x.throwIt(9, 0, 0, 0);
        x.throwIt(8, 0, 0, 0);
        Due.due("the greatest, not the last", x.after(0, 6), 180);
        Due.due("ROUND 5 is not below 5", x.after(1, 5), 126);
        Due.due("it is below 6", x.after(1, 6), 144);
        x.meet();
        x.throwIt(50, 0, 0, 0);
        Due.due("each MEET of this DAY", x.after(0, 1), 900);
        x.days(1);
        Due.due("without one", x.after(0, 6), 0);
    }

    private static void record() {
        PointFirst x = lines();
        Due.due("HOW 0 alone", x.record(0), 0);
        x.spear(1, 1);
        Due.due("none by the other", x.record(1), -1);
        x.throwIt(10, 0, 0, 0);
        Due.due("of several the first", x.record(0), 0);
        x.throwIt(11, 0, 0, 0);
        Due.due("farther", x.record(0), 6);
        x.days(1);
        x.meet();
        x.throwIt(9, 0, 0, 0);
        Due.due("all DAYS", x.record(0), 6);
        x.throwIt(99, 0, 1, 0);
        Due.due("by the other now", x.record(1), 8);
        Due.due("not by it", x.record(0), 6);
        x.throwIt(0, 0, 0, 0);
        x.undo();
        x.undo();
        Due.due("undone", x.record(1), -1);
        PointFirst y = Due.ready();
        y.throwIt(0, 0, 0, 0);
        Due.due("0 far is one", y.record(0), 0);
    }

    private static void book() {
        PointFirst x = lines();
        int n = x.look(5);
        Due.due("five lines", n, 5);
        int[] hows = {0, 2, 3, 4, 1};
        int[] forces = {10, 11, 12, 13, 20};
        for (int i = 0; i < n; i++) {
            int[] want = {0, i, 0, 0, forces[i], 0, 0, 18 * forces[i], hows[i]};
            for (int what = 0; what < 9; what++) {
                Due.due("line " + i + ", what " + what, x.book(i, what), want[what]);
            }
        }
        for (int what = 0; what < 9; what++) {
            Due.due("line 5, what " + what, x.book(5, what), -100);
            Due.due("line -1, what " + what, x.book(-1, what), -100);
        }
        x.undo();
        Due.due("undone", x.book(4, 0), -100);
    }

    private static void look() {
        PointFirst x = lines();
        x.spear(0, 0);
        x.spear(0, 0);
        x.days(7);
        x.gust(1);
        x.gust(2);
        x.state(-5);
        Due.law(x, 0, "dip 5;dip 5;dip 5;dip 5;", 4);
        Due.law(x, 1, "wear 1;wear 1;", 2);
        Due.law(x, 3, "gain 1;gain 1;gain 1;", 3);
        for (int k = 0; k < 5; k++) {
            x.set(k, 0, 1 + k);
        }
        x.pass();
        int[] want = {3, 2, 5, 0, 7, 5, -5, 4, 2, 1, 2, 3};
        for (int what = 0; what < want.length; what++) {
            Due.due("look " + what, x.look(what), want[what]);
        }
        for (int what = 12; what < 20; what++) {
            Due.due("look " + what, x.look(what), -1000);
        }
        for (int what = 20; what < 25; what++) {
            Due.due("look " + what, x.look(what), what - 19);
        }
        for (int what : new int[] {-1, 25, Integer.MIN_VALUE, Integer.MAX_VALUE}) {
            Due.due("look " + what, x.look(what), -1000);
        }
    }
}
