/** Terms, 3, and promises 10 to 14, 39 and 40: each boundary of a THROW, a turn, a MEET, a DAY, an UNDO, an IMAGE. */
final class EdgeThrowTest {
    /** 20 by 30 comes 459, 30 by 30 comes 924 cm far by the law that dips alone; by angle 0 it is 18 a force. */
    private static final int FAR = 459;

    private EdgeThrowTest() {
    }

    public static void main(String[] args) {
        draws();
        whichDraws();
        throwEnds();
        powerAtMost();
        overByDraw();
        overHeld();
        slipHeld();
        gusts();
        askedOfArms();
        bestByHundred();
        wear();
        hows();
        landings();
        bestIsMore();
        hundredLines();
        turns();
        elbow();
        meetAnew();
        turnsGoEnds();
        plans();
        planBelow();
        planElbow();
        dayMends();
        dayEnds();
        undoEight();
        undoAll();
        undoForgets();
        undoKeeps();
        image();
        imageHoldsAll();
        imageLeavesOut();
        Due.finish();
    }

    private static int next(int state) {
        return state * 1664525 + 1013904223;
    }

    private static int draw(int next, int m) {
        return (int) ((next & 0xffffffffL) / 256 % m);
    }

    /** One THROWER, alone, whose turn it is again after each THROW; a MEET anew when it is over. */
    private static int toss(PointFirst x, int force, int angle) {
        if (x.look(2) == 6) {
            x.meet();
        }
        return x.throwIt(force, angle, 0, 0);
    }

    /** STATE wraps; of what it becomes the highest 24 bits count, without sign. */
    private static void draws() {
        PointFirst x = Due.ready();
        x.set(3, 0, 9);
        int[] states = {0, 1, -1, 5, Integer.MAX_VALUE, Integer.MIN_VALUE, 1 << 30, -1 << 30, 123456789, -987654321};
        int negative = 0;
        for (int i = 0; i < states.length; i++) {
            int next = next(states[i]);
            negative += next < 0 ? 1 : 0;
            x.state(states[i]);
            toss(x, 20, 30);
            Due.due("STATE behind " + states[i], x.look(6), next);
            Due.due("the slip by " + states[i], x.book(i, 5), 30 + draw(next, 19) - 9);
        }
        Due.due("some of them below 0", negative > 2, true);
        int state = 99;
        x.state(state);
        for (int i = 0; i < 40; i++) {
            toss(x, 20, 30);
            state = next(state);
            Due.due("one behind the other " + i, x.book(10 + i, 5), 30 + draw(state, 19) - 9);
        }
    }

    /** A draw for each of over, SLIP, GUSTY that is above 0, in that order, and none for the others. */
    private static void whichDraws() {
        for (int way = 0; way < 8; way++) {
            PointFirst x = Due.ready();
            boolean over = (way & 1) > 0;
            boolean slips = (way & 2) > 0;
            boolean gusty = (way & 4) > 0;
            Due.law(x, 1, over ? "over 500;" : "over 0;", 1);
            x.set(3, 0, slips ? 4 : 0);
            x.set(2, 0, gusty ? 6 : 0);
            x.set(0, 0, 2);
            int state = 4711;
            x.state(state);
            int how = x.throwIt(20, 30, 0, 0);
            if (over) {
                state = next(state);
                Due.due("over, way " + way, how == 1, draw(state, 1000) < 500);
            }
            int angle = 30;
            if (slips) {
                state = next(state);
                angle += draw(state, 9) - 4;
            }
            int wind = 2;
            if (gusty) {
                state = next(state);
                wind += draw(state, 13) - 6;
            }
            Due.due("angle, way " + way, x.book(0, 5), angle);
            Due.due("wind, way " + way, x.book(0, 6), wind);
            Due.due("STATE, way " + way, x.look(6), state);
            Due.due("OVER is drawn for once", how == 1 && !over, false);
        }
        PointFirst x = Due.ready();
        x.set(2, 0, 1);
        x.set(3, 0, 1);
        x.state(7);
        x.throwIt(20, 30, 0, 0);
        Due.due("1 is above 0", x.look(6), next(next(7)));
        Due.law(x, 1, "over 1;", 1);
        x.throwIt(20, 30, 0, 0);
        Due.due("1 of over too", x.look(6), next(next(next(next(next(7))))));
    }

    private static void throwEnds() {
        PointFirst x = Due.ready();
        for (int k = 1; k < 6; k++) {
            x.spear(k, k);
        }
        int[][] fine = {{0, 30, 0, 0}, {99, 30, 0, 0}, {20, 0, 0, 0}, {20, 60, 0, 0}, {20, 30, 5, 0}, {20, 30, 0, 9}};
        for (int i = 0; i < fine.length; i++) {
            Due.due("an end " + i, x.throwIt(fine[i][0], fine[i][1], fine[i][2], fine[i][3]) >= 0, true);
            Due.due("force " + i, x.book(i, 4), Math.min(99, fine[i][0] + fine[i][3]));
            Due.due("angle " + i, x.book(i, 5), fine[i][1]);
            Due.due("spear " + i, x.book(i, 3), fine[i][2]);
        }
    }

    private static void powerAtMost() {
        int[][] cases = {{50, 40, 9, 49}, {50, 41, 9, 50}, {50, 42, 9, 50}, {50, 50, 0, 50}, {50, 51, 0, 50},
            {50, 99, 9, 50}, {99, 99, 9, 99}, {99, 90, 9, 99}, {99, 89, 9, 98}, {0, 99, 9, 0}, {1, 0, 0, 0}, {1, 0, 1, 1}};
        PointFirst x = Due.ready();
        for (int i = 0; i < cases.length; i++) {
            int[] c = cases[i];
            if (x.look(2) == 6) {
                x.meet();
            }
            x.set(5, 0, c[0]);
            x.throwIt(c[1], 0, 0, c[2]);
            Due.due("force " + c[1] + " and " + c[2] + ", POWER " + c[0], x.book(i, 4), c[3]);
            Due.due("far by it", x.book(i, 7), 18 * c[3]);
        }
    }

    /** Below over he is OVER; as great as it he is not. */
    private static void overByDraw() {
        PointFirst x = Due.ready();
        int seen = 0;
        for (int state = 0; state < 20; state++) {
            int d = draw(next(state), 1000);
            for (int more = 0; more <= 1; more++) {
                if (d + more < 1) {
                    continue;
                }
                Due.law(x, 1, "over " + (d + more) + ";", 1);
                x.state(state);
                Due.due("the draw " + d + ", over " + (d + more), toss(x, 20, 30), more);
                seen++;
            }
        }
        Due.due("forty of them", seen > 30, true);
    }

    private static int stateThatDraws(int d) {
        for (int state = 0; state < 100000; state++) {
            if (draw(next(state), 1000) == d) {
                return state;
            }
        }
        Due.due("a state that draws " + d, -1, 0);
        return 0;
    }

    private static void overHeld() {
        PointFirst x = Due.ready();
        int last = stateThatDraws(999);
        int first = stateThatDraws(0);
        String[] laws = {"over 999;", "over 1000;", "over 1001;", "over 9999;", "over 9999*9999*22;", "over 0-1;",
            "over 0;", "over 1;"};
        int[] byLast = {0, 1, 1, 1, 0, 0, 0, 0};
        int[] byFirst = {1, 1, 1, 1, 0, 0, 0, 1};
        boolean[] drawn = {true, true, true, true, false, false, false, true};
        for (int k = 0; k < laws.length; k++) {
            Due.law(x, 1, laws[k], 1);
            x.state(last);
            Due.due("999 drawn by " + laws[k], toss(x, 20, 30), byLast[k]);
            Due.due("a draw by " + laws[k], x.look(6) != last, drawn[k]);
            x.state(first);
            Due.due("0 drawn by " + laws[k], toss(x, 20, 30), byFirst[k]);
        }
    }

    /** The angle is held to 0 .. 90; of 0 .. 60 a slip of 9 comes to 69 at most. */
    private static void slipHeld() {
        PointFirst x = Due.ready();
        x.set(3, 0, 9);
        int below = 0;
        int most = 0;
        int line = 0;
        for (int state = 0; state < 45; state++) {
            int slip = draw(next(state), 19) - 9;
            below += slip < -1 ? 1 : 0;
            most = Math.max(most, slip);
            x.state(state);
            toss(x, 20, 1);
            Due.due("1 and " + slip, x.book(line, 5), Math.max(0, 1 + slip));
            x.state(state);
            toss(x, 20, 60);
            Due.due("60 and " + slip, x.book(line + 1, 5), 60 + slip);
            line += 2;
        }
        Due.due("some below 0", below > 9, true);
        Due.due("some by 9", most, 9);
        Due.due("it flies by the angle with the slip", x.book(0, 7), x.fly(20, x.book(0, 5), 0, 0, 0, 0, 0));
        Due.due("and by that of 60", x.book(1, 7), x.fly(20, x.book(1, 5), 0, 0, 0, 0, 0));
    }

    private static void gusts() {
        int least = 99;
        int most = -99;
        for (int from = 0; from < 90; from += 30) {
            PointFirst x = Due.ready();
            Due.law(x, 0, "dip 5;drag wind/3 when wind>0;drag 0-wind/2 when wind<0;", 3);
            x.set(2, 0, 9);
            for (int i = 0; i < 30; i++) {
                int told = i % 2 == 0 ? -20 : 20;
                int gust = draw(next(from + i), 19) - 9;
                x.set(0, 0, told);
                x.state(from + i);
                toss(x, 20, 30);
                int wind = x.book(i, 6);
                Due.due("the wind and " + gust, wind, told + gust);
                Due.due("it flies by that", x.book(i, 7), x.fly(20, 30, 0, 0, wind, 0, 0));
                Due.due("WIND stays", x.look(20), told);
                least = Math.min(least, wind);
                most = Math.max(most, wind);
            }
        }
        Due.due("down to -29", least, -29);
        Due.due("up to 29", most, 29);
    }

    /** Each word that over and wear are asked with, and mend: just as it is, and not one more or less. */
    private static void askedOfArms() {
        String[] words = {"force", "pace", "angle", "wearing", "power", "thrown", "best", "round"};
        int[] is = {45, 7, 30, 321, 45, 2, 4, 3};
        int[] ofDay = {0, 0, 0, 321, 45, 2, 4, 3};
        for (int k = 0; k < words.length; k++) {
            for (int more = -1; more <= 1; more++) {
                String so = " when " + words[k] + "=" + (is[k] + more) + ";";
                PointFirst x = third();
                Due.law(x, 1, "over 1000" + so, 1);
                Due.due("over" + so, x.throwIt(40, 30, 0, 7) == 1, more == 0);
                x = third();
                Due.law(x, 1, "wear 9" + so, 1);
                x.throwIt(40, 30, 0, 7);
                Due.due("wear" + so, x.of(0, 1), more == 0 ? 330 : 321);
                x = third();
                so = " when " + words[k] + "=" + (ofDay[k] + more) + ";";
                so = so.replace("=-1", "+1=0");
                Due.law(x, 1, "mend 9" + so, 1);
                x.days(1);
                Due.due("mend" + so, x.of(0, 1), more == 0 ? 312 : 321);
            }
        }
        // a slip, a THROW farther: wear is asked as over was
        PointFirst x = third();
        x.set(3, 0, 9);
        x.state(1);
        Due.law(x, 1, "wear angle;", 1);
        x.throwIt(45, 30, 0, 0);
        Due.due("slipped", x.book(3, 5) != 30, true);
        Due.due("by the angle that was told", x.of(0, 1), 351);
        Due.due("best is more now", x.of(0, 2) > FAR, true);
        PointFirst y = Due.ready();
        Due.law(y, 1, "wear thrown*100+best*10+round;", 1);
        y.throwIt(20, 30, 0, 0);
        Due.due("best, thrown as before the THROW", y.of(0, 1), 0);
        y.throwIt(20, 30, 0, 0);
        Due.due("and then", y.of(0, 1), 100 + 40 + 1);
    }

    /** BEST by 100, downwards: 396 and 399 are 3, 400 and 403 are 4. */
    private static void bestByHundred() {
        int[] drags = {18, 15, 14, 11};
        int[] bests = {396, 399, 400, 403};
        for (int k = 0; k < 4; k++) {
            PointFirst x = Due.ready();
            Due.law(x, 0, "dip 5;drag " + drags[k] + " when tick=5;", 2);
            x.throwIt(23, 0, 0, 0);
            Due.due("BEST", x.of(0, 2), bests[k]);
            x.set(6, 0, 100);
            Due.law(x, 1, "mend best;wear best*10;over 250*best;", 3);
            Due.due("HOLDS by best", x.holds(0, 0, 0), bests[k] < 400 ? 30 : 23);
            Due.due("RESTS by best", x.rests(0, 100 - bests[k] / 100), 1);
            Due.due("not less than a DAY", x.rests(0, 99), 1);
            Due.due("CHANCE by best", x.chance(0, 0, 1, 0, 0, 0), bests[k] < 400 ? 250000 : 0);
            x.days(1);
            Due.due("mend by best", x.of(0, 1), 100 - bests[k] / 100);
            x.throwIt(1, 0, 0, 0);
            Due.due("wear by best", x.of(0, 1), 100 + 9 * (bests[k] / 100));
        }
    }

    /** Two were thrown, one turn passed: ROUND 3, BEST 459. */
    private static PointFirst third() {
        PointFirst x = Due.ready();
        x.throwIt(20, 30, 0, 0);
        x.throwIt(10, 30, 0, 0);
        x.pass();
        x.set(5, 0, 45);
        x.set(6, 0, 321);
        return x;
    }

    private static void wear() {
        PointFirst x = Due.ready();
        String[] laws = {"wear 0;", "wear 1;", "wear 0-1;", "wear 0-9999;", "wear 998;", "wear 999;", "wear 1000;",
            "wear 1001;", "wear 9999;"};
        int[] from0 = {0, 1, 0, 0, 998, 999, 1000, 1000, 1000};
        int[] from1 = {1, 2, 1, 1, 999, 1000, 1000, 1000, 1000};
        int[] from999 = {999, 1000, 999, 999, 1000, 1000, 1000, 1000, 1000};
        int[][] want = {from0, from1, from999};
        int[] from = {0, 1, 999};
        for (int i = 0; i < 3; i++) {
            for (int k = 0; k < laws.length; k++) {
                Due.law(x, 1, laws[k], 1);
                x.set(6, 0, from[i]);
                toss(x, 20, 30);
                Due.due("from " + from[i] + " by " + laws[k], x.of(0, 1), want[i][k]);
            }
        }
    }

    /** OVER ahead of FLAT and TAIL first, those ahead of the SECTOR; all is done in each case. */
    private static void hows() {
        String[] laws = {"dip 5;", "dip 5;drift 9;", "dip 0;", "dip 0;drift 9;", "dip 0-9;", "dip 0-9;drift 9;"};
        int[] hows = {0, 4, 2, 2, 3, 3};
        for (int over = 0; over < 2; over++) {
            for (int k = 0; k < laws.length; k++) {
                PointFirst x = Due.ready();
                Due.tell(x, 0, 0, laws[k]);
                Due.law(x, 1, over > 0 ? "over 1000;wear 5;" : "wear 5;", 1 + over);
                int how = over > 0 ? 1 : hows[k];
                Due.due("HOW by " + laws[k] + " over " + over, x.throwIt(10, 0, 0, 0), how);
                Due.due("in THE BOOK", x.book(0, 8), how);
                Due.due("far", x.book(0, 7), 180);
                Due.due("WEAR", x.of(0, 1), 5);
                Due.due("THROWN", x.of(0, 3), 1);
                Due.due("BEST", x.of(0, 2), how == 0 ? 180 : 0);
                Due.due("the next one's turn", x.look(2), 1);
                Due.due("can be undone", x.look(9), 1);
            }
        }
    }

    /** By angle 0 and lie 0 the pitch it lands with is less what it dipped: -1, 0, 9, 10. */
    private static void landings() {
        PointFirst x = Due.ready();
        String[] laws = {"dip 1 when tick=0;", "dip 0;", "dip 0-9 when tick=0;", "dip 0-5 when tick<2;"};
        int[] hows = {0, 2, 2, 3};
        for (int k = 0; k < 4; k++) {
            Due.law(x, 0, laws[k], 1);
            Due.due("HOW by " + laws[k], x.throwIt(10, 0, 0, 0), hows[k]);
        }
        PointFirst y = Due.ready();
        y.set(4, 0, 6);
        Due.law(y, 0, "dip 5;drift 5 when tick=0;", 2);
        Due.due("30 off by 6 is 180", y.throwIt(10, 0, 0, 0), 0);
        y.set(4, 0, 7);
        Due.due("30 off by 7 is 210", y.throwIt(10, 0, 0, 0), 4);
        Due.law(y, 0, "dip 5;drift 0-5 when tick=0;", 2);
        Due.due("to the other side", y.throwIt(10, 0, 0, 0), 4);
        Due.law(y, 0, "dip 5;drift side when tick=0;", 2);
        y.set(1, 0, 4);
        Due.due("24 off by 7 is 168", y.throwIt(10, 0, 0, 0), 0);
        y.set(1, 0, 5);
        Due.due("by SIDE", y.throwIt(10, 0, 0, 0), 4);
    }

    private static void bestIsMore() {
        PointFirst x = Due.ready();
        int[] forces = {10, 9, 10, 11, 0, 11};
        int[] bests = {180, 180, 180, 198, 198, 198};
        for (int i = 0; i < forces.length; i++) {
            Due.due("GOOD", x.throwIt(forces[i], 0, 0, 0), 0);
            Due.due("BEST behind " + forces[i], x.of(0, 2), bests[i]);
        }
        PointFirst y = Due.ready();
        Due.due("GOOD by 0 cm", y.throwIt(0, 0, 0, 0), 0);
        Due.due("BEST 0", y.of(0, 2), 0);
        Due.law(y, 0, "dip 5;drag 1 when tick=5;", 2);
        y.throwIt(10, 0, 0, 0);
        Due.due("179", y.of(0, 2), 179);
        Due.law(y, 0, "dip 5;", 1);
        y.throwIt(10, 0, 0, 0);
        Due.due("one more", y.of(0, 2), 180);
        Due.law(y, 1, "over 1000;", 1);
        y.throwIt(99, 0, 0, 0);
        Due.due("not by one who is OVER", y.of(0, 2), 180);
    }

    private static void hundredLines() {
        PointFirst x = Due.ready();
        for (int i = 0; i < 99; i++) {
            toss(x, i, 0);
        }
        Due.due("ninety-nine", x.look(5), 99);
        Due.due("line 99 is not yet", x.book(99, 7), -100);
        toss(x, 77, 0);
        Due.due("a hundred", x.look(5), 100);
        Due.due("line 99", x.book(99, 7), 18 * 77);
        x.meet();
        Due.law(x, 1, "wear 3;", 1);
        x.state(5);
        x.set(3, 0, 2);
        Due.due("thrown all the same", x.throwIt(66, 0, 0, 0), 0);
        Due.due("a hundred still", x.look(5), 100);
        Due.due("the lines as they were", x.book(99, 7), 18 * 77);
        Due.due("no line 100", x.book(100, 7), -100);
        Due.due("THROWN", x.of(0, 3), 1);
        Due.due("WEAR", x.of(0, 1), 3);
        Due.due("BEST", x.of(0, 2) > 0, true);
        Due.due("STATE", x.look(6), next(5));
        Due.due("ROUND", x.look(2), 1);
        Due.due("undone", x.undo(), true);
        Due.due("no line goes with it", x.look(5), 100);
        Due.due("STATE goes back", x.look(6), 5);
        Due.due("the line that was", x.book(99, 7), 18 * 77);
        PointFirst y = Due.ready();
        for (int i = 0; i < 100; i++) {
            toss(y, i, 0);
        }
        Due.due("the hundredth undone", y.undo(), true);
        Due.due("its line goes", y.look(5), 99);
        Due.due("and is told no more", y.book(99, 7), -100);
        toss(y, 50, 0);
        Due.due("another hundredth", y.book(99, 7), 900);
    }

    /** Behind the last one the first; then ROUND is one more, 6 is the end. */
    private static void turns() {
        for (int n : new int[] {1, 2, 8}) {
            PointFirst x = new PointFirst();
            x.spear(0, 0);
            for (int k = 0; k < n; k++) {
                x.thrower(50);
            }
            for (int i = 0; i < 6 * n; i++) {
                Due.due("TURN " + i + " of " + n, x.look(3), i % n);
                Due.due("ROUND " + i + " of " + n, x.look(2), i / n);
                if (i % 3 == 0) {
                    Due.due("pass " + i, x.pass(), true);
                } else {
                    Due.due("throw " + i, x.throwIt(10, 10, 0, 0) >= 0, true);
                    Due.due("by whom", x.book(x.look(5) - 1, 2), i % n);
                    Due.due("in which round", x.book(x.look(5) - 1, 1), i / n);
                }
            }
            Due.due("over", x.look(2), 6);
            Due.due("TURN then", x.look(3), 0);
            Due.due("no more pass", x.pass(), false);
            Due.due("no more throw", x.throwIt(10, 10, 0, 0), -1);
            Due.due("over it stays", x.look(2), 6);
        }
        PointFirst x = Due.ready();
        x.thrower(50);
        x.throwIt(20, 30, 0, 0);
        x.pass();
        Due.due("THROWN of the one", x.of(0, 3), 1);
        Due.due("a pass is not thrown", x.of(1, 3), 0);
        Due.due("and no line", x.look(5), 1);
    }

    /** Whose WEAR is 1000 can but pass. */
    private static void elbow() {
        PointFirst x = Due.ready();
        Due.law(x, 1, "wear 1;", 1);
        x.set(6, 0, 999);
        Due.due("999", x.throwIt(20, 30, 0, 0), 0);
        Due.due("is gone now", x.of(0, 1), 1000);
        Due.due("can't throw", x.throwIt(20, 30, 0, 0), -1);
        Due.due("can pass", x.pass(), true);
        x.set(6, 0, 999);
        Due.due("mended", x.throwIt(20, 30, 0, 0), 0);
    }

    private static void meetAnew() {
        for (int turns : new int[] {0, 1, 3, 11, 12}) {
            PointFirst x = Due.ready();
            x.thrower(50);
            Due.law(x, 1, "wear 5;", 1);
            Due.plan(x, 0, "throw 20 at 30 with 0;pass;", 2);
            Due.plan(x, 1, "pass;throw 20 at 30 with 0;pass;", 3);
            x.days(3);
            x.set(3, 0, 1);
            if (turns > 0) {
                x.turnsGo(turns);
            }
            int lines = x.look(5);
            int wear = x.of(0, 1);
            int state = x.look(6);
            x.meet();
            Due.due("ROUND", x.look(2), 0);
            Due.due("TURN", x.look(3), 0);
            for (int k = 0; k < 2; k++) {
                Due.due("BEST", x.of(k, 2), 0);
                Due.due("THROWN", x.of(k, 3), 0);
                Due.due("orders from the first on", x.of(k, 6), 2 + k);
            }
            Due.due("THE BOOK stays", x.look(5), lines);
            Due.due("WEAR stays", x.of(0, 1), wear);
            Due.due("STATE stays", x.look(6), state);
            Due.due("DAY stays", x.look(4), 3);
            Due.due("SLIP stays", x.look(23), 1);
            Due.due("POWER stays", x.of(1, 0), 50);
            Due.due("the laws stay", x.look(8), 1);
            Due.due("nothing to undo", x.undo(), false);
            Due.due("one may come", x.thrower(1), 2);
        }
    }

    private static void turnsGoEnds() {
        PointFirst x = Due.ready();
        Due.plan(x, 0, "throw 20 at 30 with 0;".repeat(6), 6);
        Due.due("one turn", x.turnsGo(1), 1);
        Due.due("ROUND 1", x.look(2), 1);
        Due.due("five more and no more", x.turnsGo(48), 5);
        Due.due("over", x.look(2), 6);
        Due.due("over already", x.turnsGo(1), -1);
        x.meet();
        Due.due("six", x.turnsGo(6), 6);
        x.meet();
        Due.due("five", x.turnsGo(5), 5);
        Due.due("one is left", x.look(2), 5);
        x.meet();
        Due.plan(x, 0, "pass;", 1);
        Due.due("no THROWS", x.turnsGo(48), 0);
        Due.due("over all the same", x.look(2), 6);
        PointFirst y = new PointFirst();
        y.spear(0, 0);
        for (int k = 0; k < 8; k++) {
            y.thrower(9);
            Due.plan(y, k, "throw 1 at 1 with 0;".repeat(6), 6);
        }
        Due.due("47", y.turnsGo(47), 47);
        Due.due("the last round", y.look(2), 5);
        Due.due("the last one's turn", y.look(3), 7);
        Due.due("one more", y.turnsGo(48), 1);
        y.meet();
        Due.due("48", y.turnsGo(48), 48);
        Due.due("it is over", y.look(2), 6);
    }

    private static void plans() {
        PointFirst x = Due.ready();
        x.spear(1, 1);
        Due.plan(x, 0, "pass;throw 20 at 30 with 1 pace 4;throw 99 at 60 with 0;", 3);
        int[] left = {2, 1, 0, 0, 0, 0};
        int[] thrown = {0, 1, 1, 0, 0, 0};
        for (int i = 0; i < 6; i++) {
            Due.due("turn " + i, x.turnsGo(1), thrown[i]);
            Due.due("orders left " + i, x.of(0, 6), left[i]);
        }
        Due.due("two lines", x.look(5), 2);
        Due.due("force and pace", x.book(0, 4), 24);
        Due.due("angle", x.book(0, 5), 30);
        Due.due("spear", x.book(0, 3), 1);
        Due.due("without a pace", x.book(1, 4), 99);
        Due.due("spear of the other", x.book(1, 3), 0);
        x.meet();
        x.pass();
        Due.due("a pass by hand takes no order", x.of(0, 6), 3);
        x.throwIt(20, 30, 0, 0);
        Due.due("nor a throw by hand", x.of(0, 6), 3);
        x.turnsGo(1);
        Due.due("by plan it is the first", x.of(0, 6), 2);
        x.set(5, 0, 22);
        x.turnsGo(1);
        Due.due("POWER at most", x.book(x.look(5) - 1, 4), 22);
    }

    /** 400 is 4 metres at least, 399 is not. */
    private static void planBelow() {
        int[] far = {399, 400, 401};
        String[] laws = {"dip 5;drag 15 when tick=5;", "dip 5;drag 14 when tick=5;", "dip 5;drag 13 when tick=5;"};
        for (int k = 0; k < 3; k++) {
            PointFirst x = Due.ready();
            Due.law(x, 0, laws[k], 2);
            x.throwIt(23, 0, 0, 0);
            Due.due("BEST", x.of(0, 2), far[k]);
            Due.plan(x, 0, "throw 1 at 0 with 0 below 3;throw 1 at 0 with 0 below 4;throw 1 at 0 with 0 below 5;"
                    + "throw 1 at 0 with 0 below 0;throw 1 at 0 with 0;", 5);
            int[] thrown = {0, far[k] < 400 ? 1 : 0, 1, 0, 1};
            for (int i = 0; i < 5; i++) {
                Due.due("order " + i + " by BEST " + far[k], x.turnsGo(1), thrown[i]);
                Due.due("it is taken", x.of(0, 6), 4 - i);
            }
        }
        PointFirst x = Due.ready();
        Due.plan(x, 0, "throw 1 at 0 with 0 below 0;throw 1 at 0 with 0 below 1;throw 99 at 45 with 0 below 9999;", 3);
        Due.due("BEST 0 is 0 metres", x.turnsGo(1), 0);
        Due.due("but not 1", x.turnsGo(1), 1);
        Due.due("nor 9999", x.turnsGo(1), 1);
    }

    private static void planElbow() {
        PointFirst x = Due.ready();
        Due.law(x, 1, "wear 1;", 1);
        Due.plan(x, 0, "throw 20 at 30 with 0;throw 20 at 30 with 0;throw 20 at 30 with 0;", 3);
        x.set(6, 0, 999);
        Due.due("999: he throws", x.turnsGo(1), 1);
        Due.due("1000: he passes", x.turnsGo(1), 0);
        Due.due("with that order", x.of(0, 6), 1);
        x.set(6, 0, 0);
        Due.due("the last one", x.turnsGo(1), 1);
    }

    private static void dayMends() {
        PointFirst x = Due.ready();
        x.thrower(50);
        String[] laws = {"mend 0;", "mend 1;", "mend 0-1;", "mend 0-9999;", "mend 5;", "mend 6;", "mend 1000;",
            "mend 9999;"};
        int[] of5 = {5, 4, 5, 5, 0, 0, 0, 0};
        int[] of1000 = {1000, 999, 1000, 1000, 995, 994, 0, 0};
        for (int k = 0; k < laws.length; k++) {
            x.set(6, 0, 5);
            x.set(6, 1, 1000);
            Due.law(x, 1, laws[k], 1);
            Due.due("a day", x.days(1), true);
            Due.due("5 by " + laws[k], x.of(0, 1), of5[k]);
            Due.due("1000 by " + laws[k], x.of(1, 1), of1000[k]);
            Due.due("DAY", x.look(4), k + 1);
        }
        Due.law(x, 1, "mend wearing/2;", 1);
        x.set(6, 0, 100);
        x.days(3);
        Due.due("asked anew each DAY: 50 25 13", x.of(0, 1), 13);
        Due.law(x, 1, "mend power;", 1);
        x.set(6, 0, 200);
        x.set(6, 1, 200);
        x.days(1);
        Due.due("each by his own", x.of(0, 1) * 1000 + x.of(1, 1), 101150);
    }

    private static void dayEnds() {
        PointFirst x = Due.ready();
        Due.law(x, 1, "mend 1;", 1);
        x.set(6, 0, 1000);
        Due.due("a hundred", x.days(100), true);
        Due.due("a hundred times", x.of(0, 1), 900);
        Due.due("one", x.days(1), true);
        Due.due("once", x.of(0, 1), 899);
        for (int i = 0; i < 98; i++) {
            x.days(100);
        }
        Due.due("9901", x.look(4), 9901);
        x.set(6, 0, 500);
        Due.due("10000 would be", x.days(99), false);
        Due.due("as it was", x.look(4), 9901);
        Due.due("nothing mended", x.of(0, 1), 500);
        Due.due("9999", x.days(98), true);
        Due.due("there", x.look(4), 9999);
        Due.due("mended", x.of(0, 1), 402);
        Due.due("none more", x.days(1), false);
        Due.due("nobody there: a day all the same", new PointFirst().days(1), true);
    }

    private static void undoEight() {
        PointFirst x = Due.ready();
        x.thrower(50);
        Due.due("nothing yet", x.undo(), false);
        for (int i = 1; i <= 10; i++) {
            if (i % 2 == 0) {
                x.pass();
            } else {
                x.throwIt(i, 0, 0, 0);
            }
            Due.due("kept of " + i, x.look(9), Math.min(8, i));
        }
        for (int i = 9; i >= 2; i--) {
            Due.due("undone", x.undo(), true);
            Due.due("whose TURN it was", x.look(3), i % 2);
            Due.due("ROUND", x.look(2), i / 2);
            Due.due("lines", x.look(5), (i + 1) / 2);
            Due.due("left", x.look(9), i - 2);
        }
        Due.due("the ninth is gone", x.undo(), false);
        Due.due("that one stays", x.look(5), 1);
        Due.due("another then", x.pass(), true);
        Due.due("can be undone", x.undo(), true);
        PointFirst y = Due.ready();
        Due.plan(y, 0, "throw 20 at 30 with 0;pass;throw 30 at 30 with 0;", 3);
        y.turnsGo(5);
        Due.due("each turn by itself", y.look(9), 5);
        int[] left = {0, 0, 1, 2, 3};
        for (int i = 0; i < 5; i++) {
            y.undo();
            Due.due("orders left, " + i + " undone", y.of(0, 6), left[i]);
        }
        Due.due("none undone more", y.undo(), false);
    }

    /** What a THROW changed goes back, and thrown again it comes alike. */
    private static void undoAll() {
        PointFirst x = Due.ready();
        x.thrower(60);
        x.set(2, 0, 9);
        x.set(3, 0, 9);
        Due.law(x, 1, "over 100;wear 40;", 2);
        x.state(31);
        for (int i = 0; i < 11; i++) {
            x.throwIt(30, 20, 0, i % 10);
        }
        Due.due("the last turn", x.look(2) * 10 + x.look(3), 51);
        int[] was = all(x);
        int how = x.throwIt(45, 25, 0, 3);
        int[] then = all(x);
        Due.due("over", x.look(2), 6);
        Due.due("undone", x.undo(), true);
        same("as it was", all(x), was);
        Due.due("again as it came", x.throwIt(45, 25, 0, 3), how);
        same("all of it", all(x), then);
        x.undo();
        x.pass();
        Due.due("a pass instead", x.of(1, 3), 5);
        x.undo();
        same("as it was, the pass undone", all(x), was);
    }

    private static int[] all(PointFirst x) {
        int[] all = new int[25];
        for (int k = 0; k < 8; k++) {
            all[k] = x.of(0, k);
            all[8 + k] = x.of(1, k);
            all[16 + k] = k == 7 ? 0 : x.look(k);
        }
        all[24] = x.book(x.look(5) - 1, 7);
        return all;
    }

    private static void same(String name, int[] got, int[] want) {
        for (int k = 0; k < want.length; k++) {
            Due.due(name + ", seen " + k, got[k], want[k]);
        }
    }

    /** Whatever else is told or done forgets, though it may change nothing. */
    private static void undoForgets() {
        String[] names = {"state", "spear", "set WIND", "set SIDE", "set GUSTY", "set SLIP", "set SECTOR", "set POWER",
            "set WEAR", "plan", "plan of none", "meet", "days", "image(false)"};
        for (int k = 0; k < names.length; k++) {
            PointFirst x = Due.ready();
            x.image(true);
            x.throwIt(20, 30, 0, 0);
            x.pass();
            forget(x, k);
            Due.due("forgets: " + names[k], x.look(9), 0);
            Due.due("none undone: " + names[k], x.undo(), false);
            Due.due("one from now on", x.pass(), true);
            Due.due("can be undone", x.undo(), true);
        }
    }

    private static void forget(PointFirst x, int k) {
        if (k == 0) {
            x.state(x.look(6));
        } else if (k == 1) {
            x.spear(1, 1);
        } else if (k <= 6) {
            x.set(k - 2, 0, x.look(20 + k - 2));
        } else if (k <= 8) {
            x.set(k - 2, 0, x.of(0, k - 7));
        } else if (k == 9) {
            Due.plan(x, 0, "pass;", 1);
        } else if (k == 10) {
            Due.plan(x, 0, "", 0);
        } else if (k == 11) {
            x.meet();
        } else if (k == 12) {
            x.days(1);
        } else {
            x.image(false);
        }
    }

    /** GUSTS, the three LAWS and the taking of THE IMAGE do not; they are not undone either. */
    private static void undoKeeps() {
        PointFirst x = Due.ready();
        x.throwIt(20, 30, 0, 0);
        x.gust(3);
        Due.due("a gust", x.look(9), 1);
        x.gust(-100);
        Due.due("gusts emptied", x.look(9), 1);
        Due.law(x, 0, "dip 4;dip 3;", 2);
        Due.due("the law of flight", x.look(9), 1);
        Due.law(x, 1, "wear 4;", 1);
        Due.due("the law of arms", x.look(9), 1);
        Due.law(x, 3, "gain 4;", 1);
        Due.due("the law of training", x.look(9), 1);
        Due.due("an image", x.image(true), true);
        Due.due("taken", x.look(9), 1);
        x.gust(5);
        Due.due("undone", x.undo(), true);
        Due.due("GUSTS stay", x.look(10), 1);
        Due.due("laws stay", x.look(7) * 100 + x.look(8) * 10 + x.look(11), 211);
        Due.due("the image stays", x.image(false), true);
        Due.due("with its throw", x.of(0, 3), 1);
        Due.due("which can't be undone now", x.undo(), false);
    }

    private static void image() {
        PointFirst x = Due.ready();
        Due.due("none yet", x.image(false), false);
        Due.due("taken", x.image(true), true);
        x.throwIt(20, 30, 0, 0);
        Due.due("back", x.image(false), true);
        Due.due("as it was", x.look(5), 0);
        x.throwIt(30, 30, 0, 0);
        x.throwIt(30, 30, 0, 0);
        Due.due("back once more", x.image(false), true);
        Due.due("as it was again", x.look(5) + x.of(0, 2) + x.look(2), 0);
        x.throwIt(25, 30, 0, 0);
        Due.due("taken anew", x.image(true), true);
        Due.due("taken anew at once", x.image(true), true);
        x.meet();
        Due.due("back to the later one", x.image(false), true);
        Due.due("its throw", x.of(0, 2), 640);
        Due.due("its round", x.look(2), 1);
        // from it all goes on
        x.throwIt(30, 30, 0, 0);
        Due.due("another line", x.look(5), 2);
        Due.due("its draws too", x.look(6), 0);
        x.set(3, 0, 5);
        x.state(8);
        x.image(true);
        x.throwIt(30, 30, 0, 0);
        int angle = x.book(2, 5);
        int state = x.look(6);
        x.image(false);
        x.throwIt(30, 30, 0, 0);
        Due.due("the same draw", x.book(2, 5), angle);
        Due.due("the same STATE", x.look(6), state);
    }

    /** All else that is and was told is of it: whatever is told and done, it goes back, and more than once. */
    private static void imageHoldsAll() {
        PointFirst y = Rich.make();
        y.image(true);
        y.image(false);
        long[] want = Rich.seen(y);
        for (int times = 1; times <= 3; times++) {
            PointFirst x = Rich.make();
            x.image(true);
            for (int n = 0; n < times; n++) {
                change(x);
                Due.due("back", x.image(false), true);
            }
            Due.tell(x, 0, 0, "lift 1/0;");
            Due.put(x, 0, "gain 1;cost 2;");
            long[] got = Rich.seen(x);
            for (int k = 0; k < want.length; k++) {
                Due.due("back for the time " + times + ", seen " + k, got[k], want[k]);
            }
        }
    }

    private static void change(PointFirst x) {
        Due.tell(x, 0, 0, "drag 3;dip 1;lift 2;drift 1;dip 9;");
        Due.tell(x, 1, 0, "mend 1;wear 9;over 3;");
        Due.tell(x, 3, 0, "cost 7;gain 2;gain 3;");
        Due.tell(x, 2, 0, "pass;pass;throw 9 at 9 with 1;");
        Due.tell(x, 2, 1, "throw 8 at 8 with 0 pace 8 below 8;");
        Due.tell(x, 2, 2, "throw 7 at 7 with 0;");
        for (int k = 0; k < 5; k++) {
            x.set(k, 0, 9 - k);
        }
        for (int k = 0; k < 3; k++) {
            x.set(5, k, 11 * k);
            x.set(6, k, 12 * k);
        }
        x.state(-1);
        x.gust(-100);
        x.gust(11);
        x.gust(12);
        x.gust(13);
        x.spear(8, 8);
        x.turnsGo(7);
        x.meet();
        x.thrower(77);
        x.days(4);
        x.turnsGo(6);
        x.throwIt(1, 2, 2, 3);
    }

    /** The TAPE, fault() and what can be undone are not of it. */
    private static void imageLeavesOut() {
        PointFirst x = Due.ready();
        Due.put(x, 0, "gain 1;");
        x.throwIt(20, 30, 0, 0);
        x.image(true);
        Due.due("of before can be undone yet", x.undo(), true);
        Due.fault(x, 3, "gain 1/0;", 2, 7);
        Due.put(x, 0, "cost 2;cost 3;");
        x.image(false);
        Due.due("fault as it is", x.fault(0), 2);
        Due.due("its place", x.fault(1), 7);
        Due.due("the TAPE as it is", x.text(3, 0), 2);
        Due.due("nothing to undo", x.undo(), false);
        Due.due("the throw of the image", x.of(0, 3), 1);
    }
}
