/** Promises 10 to 14, 39 and 40: what is done, undone, and gone back to. */
final class DoneTest {
    private DoneTest() {
    }

    public static void main(String[] args) {
        throwItRefused();
        throwItByForce();
        throwItLands();
        throwItOver();
        throwItDraws();
        throwItWears();
        throwItBook();
        pass();
        turnsGo();
        turnsGoByPlan();
        meet();
        days();
        undo();
        undoForgets();
        undoStays();
        image();
        Due.finish();
    }

    private static void throwItRefused() {
        PointFirst x = new PointFirst();
        x.spear(0, 0);
        Due.due("nobody there", x.throwIt(1, 1, 0, 0), -1);
        x.thrower(99);
        int[][] bad = {{-1, 1, 0, 0}, {100, 1, 0, 0}, {1, -1, 0, 0}, {1, 61, 0, 0}, {1, 1, -1, 0}, {1, 1, 1, 0},
            {1, 1, 0, -1}, {1, 1, 0, 10}};
        for (int[] b : bad) {
            Due.due("throwIt " + b[0] + " " + b[1] + " " + b[2] + " " + b[3], x.throwIt(b[0], b[1], b[2], b[3]), -1);
        }
        x.set(6, 0, 1000);
        Due.due("the elbow is gone", x.throwIt(1, 1, 0, 0), -1);
        Due.due("nothing was done", x.look(9), 0);
        Due.due("no turn went", x.look(2), 0);
        x.set(6, 0, 999);
        Due.due("it holds yet", x.throwIt(99, 60, 0, 9) >= 0, true);
        for (int i = 0; i < 5; i++) {
            Due.due("all six rounds", x.throwIt(0, 0, 0, 0), 2);
        }
        Due.due("over", x.look(2), 6);
        Due.due("it is over", x.throwIt(1, 1, 0, 0), -1);
        Due.due("six lines", x.look(5), 6);
    }

    private static void throwItByForce() {
        PointFirst x = Due.ready();
        x.set(5, 0, 25);
        x.throwIt(20, 30, 0, 4);
        Due.due("force and pace", x.book(0, 4), 24);
        x.throwIt(20, 30, 0, 9);
        Due.due("power at most", x.book(1, 4), 25);
        x.throwIt(99, 30, 0, 0);
        Due.due("power at most again", x.book(2, 4), 25);
        Due.due("far by that", x.book(2, 7), 640);
    }

    /** By angle 0 and force 10 it flies six ticks and 180 cm; the law says how it lies then. */
    private static void throwItLands() {
        PointFirst x = Due.ready();
        String[] laws = {"dip 1 when tick=0;", "dip 0;", "dip 0-9 when tick=0;", "dip 0-5 when tick<2;",
            "dip 1;drift 1;", "dip 1;drift 1 when tick=0;", "dip 1;drift 5 when tick=0;", "dip 1;drift 0-5 when tick=0;"};
        int[] hows = {0, 2, 2, 3, 0, 0, 4, 4};
        for (int i = 0; i < laws.length; i++) {
            Due.tell(x, 0, 0, laws[i]);
            if (x.look(2) == 6) {
                x.meet();
            }
            int how = x.throwIt(10, 0, 0, 0);
            Due.due("throwIt by " + laws[i], how, hows[i]);
            Due.due("book of it", x.book(i, 8), hows[i]);
        }
        PointFirst y = Due.ready();
        Due.tell(y, 0, 0, "dip 5;drift 5 when tick=0;");
        y.set(4, 0, 6);
        Due.due("30 off, 6 times is 180", y.throwIt(10, 0, 0, 0), 0);
        Due.due("best", y.of(0, 2), 180);
        y.set(4, 0, 7);
        Due.due("30 off, 7 times is 210", y.throwIt(10, 0, 0, 0), 4);
        y.throwIt(20, 30, 0, 0);
        Due.due("best is more", y.of(0, 2), 459);
        y.throwIt(10, 0, 0, 0);
        y.set(4, 0, 1);
        Due.due("good", y.throwIt(10, 0, 0, 0), 0);
        Due.due("best stays", y.of(0, 2), 459);
        Due.tell(y, 0, 0, "");
        Due.due("tail first", y.throwIt(30, 30, 0, 0), 3);
        Due.due("best stays, not good", y.of(0, 2), 459);
    }

    private static void throwItOver() {
        PointFirst x = Due.ready();
        Due.law(x, 1, "over 563;wear 1;", 2);
        x.state(0);
        Due.due("the draw is 563: not below", x.throwIt(20, 30, 0, 0), 0);
        Due.due("drawn once", x.look(6), 1013904223);
        Due.law(x, 1, "over 564;wear 1;", 2);
        x.state(0);
        Due.due("below", x.throwIt(30, 30, 0, 0), 1);
        Due.due("over wears too", x.of(0, 1), 2);
        Due.due("over is thrown too", x.of(0, 3), 2);
        Due.due("not the best", x.of(0, 2), 459);
        Due.due("but told", x.book(1, 7), 924);
        Due.due("as over", x.book(1, 8), 1);
        Due.tell(x, 0, 0, "");
        x.state(0);
        Due.due("over ahead of tail", x.throwIt(30, 30, 0, 0), 1);
        Due.law(x, 1, "over 0-5;", 1);
        x.state(0);
        x.throwIt(30, 30, 0, 0);
        Due.due("no draw for 0", x.look(6), 0);
        Due.law(x, 1, "over 2000;", 1);
        Due.due("1000 at most", x.throwIt(30, 30, 0, 0), 1);
        Due.law(x, 1, "over force*10+pace+angle-400-260;", 1);
        Due.tell(x, 0, 0, Due.DIP);
        x.set(5, 0, 80);
        x.state(0);
        Due.due("what it is asked by: 800 and 9 and 30 less 660 is 179", x.throwIt(99, 30, 0, 9), 0);
        x.meet();
        Due.law(x, 1, "over power*2+wearing*2+best*2+thrown*2+round*2;", 1);
        x.set(6, 0, 200);
        x.state(0);
        Due.due("160 and 400: 560", x.throwIt(20, 30, 0, 0), 0);
        x.state(0);
        Due.due("and best 4, thrown 1, round 1: 572", x.throwIt(20, 30, 0, 0), 1);
    }

    private static void throwItDraws() {
        PointFirst x = Due.ready();
        x.set(3, 0, 2);
        x.state(0);
        x.throwIt(20, 30, 0, 0);
        // 3960563 modulo 5 is 3, less 2
        Due.due("the slip", x.book(0, 5), 31);
        Due.due("one draw", x.look(6), 1013904223);
        x.set(3, 0, 0);
        x.set(2, 0, 3);
        x.set(0, 0, -20);
        x.state(0);
        x.throwIt(20, 30, 0, 0);
        // 3960563 modulo 7 is 5, less 3
        Due.due("the gust", x.book(1, 6), -18);
        Due.due("one draw too", x.look(6), 1013904223);
        x.set(2, 0, 1);
        x.state(0);
        x.throwIt(20, 30, 0, 0);
        x.set(2, 0, 0);
        x.set(3, 0, 1);
        x.state(0);
        x.throwIt(20, 30, 0, 0);
        // 3960563 modulo 3 is 2, less 1
        Due.due("a gust of 1", x.book(2, 6), -19);
        Due.due("a slip of 1", x.book(3, 5), 31);
        x.set(2, 0, 3);
        x.meet();
        x.set(3, 0, 9);
        x.state(0);
        x.throwIt(20, 0, 0, 0);
        // 3960563 modulo 19 is 13, less 9; the next draw is the gust's
        Due.due("a greater slip", x.book(4, 5), 4);
        int state = 1013904223 * 1664525 + 1013904223;
        Due.due("two draws", x.look(6), state);
        Due.due("the second is the wind's", x.book(4, 6), -20 + (state >>> 8) % 7 - 3);
        Due.law(x, 1, "over 1;", 1);
        x.state(0);
        x.throwIt(20, 60, 0, 0);
        Due.due("the first is over's", x.book(5, 5), 60 + (state >>> 8) % 19 - 9);
        for (int i = 0; i < 60; i++) {
            if (x.look(2) == 6) {
                x.meet();
            }
            x.throwIt(20, 0, 0, 0);
            Due.due("not below 0", x.book(6 + i, 5) >= 0 && x.book(6 + i, 5) <= 9, true);
            Due.due("the gust's bounds", x.book(6 + i, 6) >= -23 && x.book(6 + i, 6) <= -17, true);
        }
    }

    private static void throwItWears() {
        PointFirst x = Due.ready();
        Due.law(x, 1, "wear force+pace*2+angle*3+thrown*100+best*10+round*50;", 1);
        x.throwIt(20, 30, 0, 3);
        Due.due("23 and 6 and 90", x.of(0, 1), 119);
        x.throwIt(20, 30, 0, 0);
        // best is 510 by 24 .. of the first: 5 by 100; thrown 1; round 1
        Due.due("more", x.of(0, 1), 119 + 20 + 90 + 100 + 10 * (x.book(0, 7) / 100) + 50);
        Due.law(x, 1, "wear 0-5;", 1);
        int was = x.of(0, 1);
        x.throwIt(20, 30, 0, 0);
        Due.due("not less", x.of(0, 1), was);
        Due.law(x, 1, "wear 5000;", 1);
        x.throwIt(20, 30, 0, 0);
        Due.due("1000 at most", x.of(0, 1), 1000);
        Due.due("thrown", x.of(0, 3), 4);
        x.set(6, 0, 10);
        Due.law(x, 1, "wear wearing+power;", 1);
        x.throwIt(20, 30, 0, 0);
        Due.due("10 and 10 and 99", x.of(0, 1), 119);
        // by a slip the angle asked is still the one that was told
        x.meet();
        x.set(6, 0, 0);
        x.set(3, 0, 9);
        x.state(0);
        Due.law(x, 1, "wear angle;", 1);
        x.throwIt(20, 30, 0, 0);
        Due.due("slipped", x.book(5, 5), 34);
        Due.due("as told", x.of(0, 1), 30);
    }

    private static void throwItBook() {
        PointFirst x = Due.ready();
        x.thrower(50);
        x.spear(9, 9);
        x.days(4);
        x.set(0, 0, 7);
        x.pass();
        x.pass();
        x.pass();
        x.throwIt(20, 30, 1, 1);
        int[] want = {4, 1, 1, 1, 21, 30, 7, x.fly(21, 30, 0, 1, 7, 0, 0), 0};
        for (int k = 0; k < 9; k++) {
            Due.due("book " + k, x.book(0, k), want[k]);
        }
        Due.due("next", x.look(3), 0);
        Due.due("next round", x.look(2), 2);
        for (int i = 0; i < 110; i++) {
            if (x.look(2) == 6) {
                x.meet();
            }
            Due.due("thrown", x.throwIt(i % 100, 30, 0, 0) >= 0, true);
        }
        Due.due("a hundred lines", x.look(5), 100);
        Due.due("the last one", x.book(99, 4), 98);
        Due.due("no more", x.book(100, 0), -100);
        x.meet();
        x.throwIt(99, 30, 0, 0);
        Due.due("thrown without a line", x.of(0, 3), 1);
        Due.due("best without a line", x.of(0, 2) > 5000, true);
        x.undo();
        Due.due("still a hundred", x.look(5), 100);
        Due.due("undone", x.of(0, 3), 0);
    }

    private static void pass() {
        PointFirst x = new PointFirst();
        Due.due("nobody there", x.pass(), false);
        x.thrower(1);
        x.thrower(1);
        x.set(6, 0, 1000);
        for (int i = 0; i < 12; i++) {
            Due.due("turn", x.look(3), i % 2);
            Due.due("round", x.look(2), i / 2);
            Due.due("pass", x.pass(), true);
        }
        Due.due("over", x.look(2), 6);
        Due.due("first again", x.look(3), 0);
        Due.due("no more", x.pass(), false);
        Due.due("eight kept", x.look(9), 8);
    }

    private static void turnsGo() {
        PointFirst x = new PointFirst();
        Due.due("nobody there", x.turnsGo(1), -1);
        x.spear(0, 0);
        x.thrower(50);
        x.thrower(60);
        x.thrower(70);
        Due.due("0", x.turnsGo(0), -1);
        Due.due("49", x.turnsGo(49), -1);
        Due.plan(x, 1, "throw 1 at 1 with 0;throw 2 at 2 with 0;", 2);
        Due.due("nobody's orders but one's", x.turnsGo(2), 1);
        Due.due("who threw", x.book(0, 2), 1);
        Due.due("whose turn", x.look(3), 2);
        Due.due("to the end", x.turnsGo(48), 1);
        Due.due("over", x.look(2), 6);
        Due.due("over already", x.turnsGo(1), -1);
        x.meet();
        Due.due("anew", x.turnsGo(48), 2);
        PointFirst y = new PointFirst();
        y.spear(0, 0);
        for (int k = 0; k < 8; k++) {
            y.thrower(99);
            Due.plan(y, k, "throw 9 at 9 with 0;".repeat(7), 7);
        }
        Due.due("eight times six", y.turnsGo(48), 48);
        Due.due("it is over", y.look(2), 6);
        Due.due("one order left", y.of(7, 6), 1);
    }

    private static void turnsGoByPlan() {
        PointFirst x = Due.ready();
        Due.plan(x, 0, "throw 20 at 30 with 0 below 4;throw 20 at 30 with 0 below 4;throw 20 at 30 with 0 below 5;"
                + "throw 20 at 30 with 0 below 0;pass;throw 30 at 30 with 0 pace 9;", 6);
        Due.due("nothing reached", x.turnsGo(1), 1);
        Due.due("best 459", x.of(0, 2), 459);
        Due.due("459 is 4 metres at least", x.turnsGo(1), 0);
        Due.due("459 is not 5", x.turnsGo(1), 1);
        Due.due("0 at least always", x.turnsGo(1), 0);
        Due.due("a pass", x.turnsGo(1), 0);
        Due.due("one left", x.of(0, 6), 1);
        Due.due("the last", x.turnsGo(1), 1);
        Due.due("with its pace", x.book(2, 4), 39);
        Due.due("over", x.look(2), 6);
        x.meet();
        x.throwIt(1, 1, 0, 0);
        x.pass();
        Due.due("by hand no order goes", x.of(0, 6), 6);
        x.set(6, 0, 1000);
        Due.due("his elbow", x.turnsGo(1), 0);
        Due.due("an order goes", x.of(0, 6), 5);
        x.set(6, 0, 0);
        Due.plan(x, 0, "throw 20 at 30 with 0 below 3;throw 20 at 30 with 0 below 3;", 2);
        x.meet();
        Due.law(x, 0, "dip 5;drag 21 when tick=0;", 2);
        Due.due("far 270", x.throwIt(20, 30, 0, 0), 0);
        Due.due("270 is not 3 metres", x.turnsGo(1), 1);
        Due.law(x, 0, "dip 9;drag 40 when tick=0;", 2);
        // by angle 0 a force of 30 comes 90 a tick, six ticks: 50 less 40 is 50 a tick
        Due.due("300", x.throwIt(30, 0, 0, 0), 0);
        Due.due("best 300", x.of(0, 2), 300);
        Due.due("300 is 3 metres", x.turnsGo(1), 0);
    }

    private static void meet() {
        PointFirst x = Due.ready();
        x.thrower(50);
        Due.law(x, 1, "wear 5;", 1);
        Due.plan(x, 0, "throw 20 at 30 with 0;pass;", 2);
        x.turnsGo(5);
        x.throwIt(20, 30, 0, 0);
        x.meet();
        Due.due("round", x.look(2), 0);
        Due.due("turn", x.look(3), 0);
        for (int k = 0; k < 2; k++) {
            Due.due("best", x.of(k, 2), 0);
            Due.due("thrown", x.of(k, 3), 0);
        }
        Due.due("orders", x.of(0, 6), 2);
        Due.due("wear stays", x.of(0, 1), 5);
        Due.due("the book stays", x.look(5), 2);
        Due.due("nothing to undo", x.look(9), 0);
    }

    private static void days() {
        PointFirst x = Due.ready();
        x.thrower(50);
        x.set(6, 0, 500);
        x.set(6, 1, 30);
        Due.law(x, 1, "mend 7+wearing/100+force+pace+angle;", 1);
        Due.due("0", x.days(0), false);
        Due.due("101", x.days(101), false);
        Due.due("-1", x.days(-1), false);
        Due.due("two", x.days(2), true);
        Due.due("12 and 11", x.of(0, 1), 477);
        Due.due("7 and 7", x.of(1, 1), 16);
        Due.due("day", x.look(4), 2);
        x.days(3);
        Due.due("0 at least", x.of(1, 1), 0);
        Due.law(x, 1, "mend 0-9;", 1);
        int was = x.of(0, 1);
        x.days(100);
        Due.due("not more", x.of(0, 1), was);
        for (int day = 105; day + 100 <= 9999; day += 100) {
            Due.due("a hundred", x.days(100), true);
        }
        Due.due("day 9905", x.look(4), 9905);
        Due.due("one too many", x.days(95), false);
        Due.due("as it was", x.look(4), 9905);
        Due.due("to the last", x.days(94), true);
        Due.due("the last", x.look(4), 9999);
        Due.due("none more", x.days(1), false);
        PointFirst y = Due.ready();
        Due.law(y, 1, "mend thrown*10+best+round*100+power-99;wear 500;", 2);
        y.throwIt(20, 30, 0, 0);
        y.days(1);
        Due.due("10 and 4 and 100", y.of(0, 1), 386);
        Due.law(y, 1, "mend force+pace+angle+5;", 1);
        y.throwIt(20, 30, 0, 3);
        y.days(1);
        Due.due("no throw is asked", y.of(0, 1), 381);
        Due.law(y, 0, "dip 9;drag 40 when tick=0;", 2);
        y.meet();
        y.throwIt(30, 0, 0, 0);
        Due.due("300 cm", y.of(0, 2), 300);
        Due.law(y, 1, "mend best;", 1);
        y.days(1);
        Due.due("300 by 100 is 3", y.of(0, 1), 378);
    }

    private static void undo() {
        PointFirst x = Due.ready();
        x.thrower(80);
        x.set(3, 0, 3);
        x.set(2, 0, 3);
        Due.law(x, 1, "wear 10;over 300;", 2);
        Due.plan(x, 0, "throw 20 at 30 with 0;throw 30 at 30 with 0;pass;throw 30 at 40 with 0;", 4);
        Due.plan(x, 1, "pass;throw 20 at 30 with 0;throw 40 at 30 with 0;", 3);
        int[][] seen = new int[13][];
        for (int i = 0; i < 12; i++) {
            seen[i] = seen(x);
            if (i % 3 == 0) {
                x.throwIt(33, 33, 0, 1);
            } else {
                x.turnsGo(1);
            }
        }
        Due.due("eight kept", x.look(9), 8);
        for (int i = 11; i >= 4; i--) {
            Due.due("undo " + i, x.undo(), true);
            int[] now = seen(x);
            for (int k = 0; k < now.length; k++) {
                Due.due("seen " + k + " before " + i, now[k], seen[i][k]);
            }
            Due.due("left", x.look(9), i - 4);
        }
        Due.due("no more", x.undo(), false);
        Due.due("six turns at once", x.turnsGo(6) >= 0, true);
        Due.due("six kept", x.look(9), 6);
        x.undo();
        Due.due("one turn back", x.look(2) * 2 + x.look(3), 9);
        Due.due("five kept", x.look(9), 5);
        x.pass();
        Due.due("six again", x.look(9), 6);
    }

    private static int[] seen(PointFirst x) {
        return new int[] {x.look(6), x.look(5), x.look(2), x.look(3), x.of(0, 1), x.of(0, 2), x.of(0, 3), x.of(0, 6),
            x.of(1, 1), x.of(1, 2), x.of(1, 3), x.of(1, 6)};
    }

    private static void undoForgets() {
        for (int k = 0; k < 9; k++) {
            PointFirst x = Due.ready();
            x.image(true);
            x.pass();
            Due.due("one can be undone", x.look(9), 1);
            if (k == 0) {
                x.state(1);
            } else if (k == 1) {
                x.spear(1, 1);
            } else if (k == 2) {
                x.set(0, 0, 0);
            } else if (k == 3) {
                x.set(6, 0, 3);
            } else if (k == 4) {
                Due.tell(x, 2, 0, "pass;");
            } else if (k == 5) {
                x.meet();
            } else if (k == 6) {
                x.days(1);
            } else if (k == 7) {
                x.image(false);
            } else {
                x.set(5, 0, 3);
            }
            Due.due("forgotten " + k, x.look(9), 0);
            Due.due("not undone " + k, x.undo(), false);
        }
    }

    private static void undoStays() {
        PointFirst x = Due.ready();
        x.throwIt(20, 30, 0, 0);
        x.image(true);
        x.gust(1);
        x.gust(-100);
        x.gust(2);
        Due.law(x, 0, "dip 4;", 1);
        Due.law(x, 1, "wear 4;", 1);
        Due.law(x, 3, "gain 4;", 1);
        Due.fault(x, 2, "run;", 1, 0);
        x.text(7, 0);
        x.thrower(1);
        x.spear(10, 0);
        x.set(0, 0, 21);
        x.days(0);
        x.throwIt(100, 0, 0, 0);
        x.turnsGo(0);
        x.fly(20, 30, 0, 0, 0, 0, 0);
        x.would(0);
        x.holds(0, 1, 1);
        x.feed(0, 0, 0, 0, 0);
        x.end(0);
        Due.due("kept", x.look(9), 1);
        Due.due("undone", x.undo(), true);
        Due.due("laws stay", x.fly(10, 0, 0, 0, 0, 0, 6), -24);
        Due.due("gusts stay", x.look(10), 1);
        Due.due("thrown", x.of(0, 3), 0);
        Due.due("no image is no change", new PointFirst().image(false), false);
        PointFirst y = Due.ready();
        y.pass();
        y.image(false);
        Due.due("none to go back to", y.look(9), 1);
    }

    private static void image() {
        PointFirst x = Due.ready();
        Due.due("none", x.image(false), false);
        Due.law(x, 0, "dip 5;drag wind when wind>0;", 2);
        Due.law(x, 1, "wear 7;", 1);
        Due.law(x, 3, "gain 1;", 1);
        Due.plan(x, 0, "throw 20 at 30 with 0;throw 30 at 30 with 0;", 2);
        x.gust(3);
        x.state(77);
        x.set(2, 0, 1);
        x.turnsGo(1);
        Due.due("taken", x.image(true), true);
        Due.due("can be undone yet", x.look(9), 1);
        int[] was = all(x);
        for (int times = 0; times < 2; times++) {
            x.turnsGo(1);
            Due.tell(x, 0, 0, "lift 3;dip 2;");
            Due.tell(x, 1, 0, "wear 9;wear 1;");
            Due.tell(x, 3, 0, "gain 9;gain 8;");
            Due.tell(x, 2, 0, "pass;pass;pass;");
            x.gust(-100);
            x.gust(-3);
            x.spear(9, 9);
            x.set(0, 0, 20);
            x.set(1, 0, -20);
            x.set(2, 0, 9);
            x.set(3, 0, 9);
            x.set(4, 0, 20);
            x.set(5, 0, 1);
            x.days(9);
            x.meet();
            x.thrower(44);
            x.set(6, 1, 44);
            Due.tell(x, 2, 1, "throw 20 at 30 with 0;throw 30 at 30 with 0;");
            x.throwIt(1, 1, 1, 1);
            x.turnsGo(1);
            x.throwIt(1, 1, 1, 1);
            x.turnsGo(1);
            Due.put(x, 0, "gain 5;");
            Due.due("gone back", x.image(false), true);
            Due.due("the tape is not of it", x.end(7), true);
            Due.due("longer it is not", x.end(8), false);
            x.end(0);
            int[] now = all(x);
            for (int k = 0; k < now.length; k++) {
                Due.due("as it was " + k, now[k], was[k]);
            }
            Due.due("nothing to undo", x.look(9), 0);
        }
        x.meet();
        x.throwIt(20, 30, 0, 0);
        int line = x.look(5) - 1;
        int force = x.book(line, 4);
        x.image(true);
        x.undo();
        x.throwIt(77, 30, 0, 0);
        Due.due("another line", x.book(line, 4), 77);
        x.image(false);
        Due.due("the line as it was", x.book(line, 4), force);
        x.image(true);
        x.set(0, 0, 5);
        x.image(false);
        Due.due("the latest image", x.look(20), 0);
        Due.due("a new spear is new", x.spear(4, 5), 1);
        Due.due("soft", x.at(1, 0), 4);
        x.meet();
        Due.due("a new thrower is new", x.thrower(9), 1);
        Due.due("no plan", x.of(1, 6), 0);
        Due.due("no wear", x.of(1, 1), 0);
        Due.due("no best", x.of(1, 2), 0);
        Due.due("not thrown", x.of(1, 3), 0);
    }

    private static int[] all(PointFirst x) {
        int[] all = new int[40];
        for (int k = 0; k < 25; k++) {
            all[k] = k == 9 ? 0 : x.look(k);
        }
        for (int k = 0; k < 8; k++) {
            all[25 + k] = x.of(0, k);
        }
        all[33] = x.fly(20, 30, 0, 0, 0, 0, 6);
        all[34] = x.holds(0, 20, 30);
        all[35] = x.train(0, 1, 1000, 0);
        all[36] = x.waitFor(20, 30, 0, 1);
        all[37] = x.would(0);
        all[38] = x.book(0, 7);
        all[39] = x.waitFor(20, 30, 0, 0);
        return all;
    }
}
