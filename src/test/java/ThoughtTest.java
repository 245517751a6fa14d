/** Promises 18 to 24, 26 to 30, 32 to 34, 37 and 38: what is only thought. */
final class ThoughtTest {
    private ThoughtTest() {
    }

    public static void main(String[] args) {
        fly();
        flyByLaw();
        flyHeld();
        flyLong();
        angle();
        safe();
        right();
        winds();
        still();
        holds();
        chance();
        chanceByArms();
        chanceByPower();
        waitFor();
        leastForce();
        better();
        span();
        train();
        trainByLaw();
        would();
        verdict();
        path();
        needed();
        rests();
        nothingStays();
        Due.finish();
    }

    private static void fly() {
        PointFirst x = Due.ready();
        int[] want = {459, 0, 0, 9, 210, 1, -15};
        for (int k = 0; k < 7; k++) {
            Due.due("fly 20 30, " + k, x.fly(20, 30, 0, 0, 0, 0, k), want[k]);
        }
        int[] flat = {180, 0, 0, 6, 180, 1, -25};
        for (int k = 0; k < 7; k++) {
            Due.due("fly 10 0 by a lie, " + k, x.fly(10, 0, 5, 0, 0, 0, k), flat[k]);
        }
        Due.due("upright", x.fly(99, 90, 9, 0, 29, -29, 0), 0);
        Due.due("S of 90 is 1000", x.fly(10, 90, 0, 0, 0, 0, 4), 180 + 20 + 10);
        Due.due("no force", x.fly(0, 45, 0, 0, 0, 0, 3), 6);
        int[][] bad = {{-1, 0, 0, 0, 0, 0, 0}, {100, 0, 0, 0, 0, 0, 0}, {0, -1, 0, 0, 0, 0, 0}, {0, 91, 0, 0, 0, 0, 0},
            {0, 0, -10, 0, 0, 0, 0}, {0, 0, 10, 0, 0, 0, 0}, {0, 0, 0, -1, 0, 0, 0}, {0, 0, 0, 1, 0, 0, 0},
            {0, 0, 0, 0, -30, 0, 0}, {0, 0, 0, 0, 30, 0, 0}, {0, 0, 0, 0, 0, -30, 0}, {0, 0, 0, 0, 0, 30, 0},
            {0, 0, 0, 0, 0, 0, -1}, {0, 0, 0, 0, 0, 0, 7}};
        for (int[] b : bad) {
            Due.due("fly refused", x.fly(b[0], b[1], b[2], b[3], b[4], b[5], b[6]), -10000);
        }
        Due.due("the ends", x.fly(99, 90, -9, 0, -29, 29, 6) > -10000, true);
        // the pitch it lands with: 0 and 9 are flat, 10 is tail first
        Due.law(x, 0, "", 0);
        int[] landed = {0, 1, 1, 2};
        int[] lies = {-1, 0, 9, 9};
        for (int k = 0; k < 4; k++) {
            Due.due("landed " + k, x.fly(0, k == 3 ? 1 : 0, lies[k], 0, 0, 0, 1), landed[k]);
            Due.due("good " + k, x.fly(0, k == 3 ? 1 : 0, lies[k], 0, 0, 0, 5), k == 0 ? 1 : 0);
        }
        Due.due("no spear", new PointFirst().fly(0, 0, 0, 0, 0, 0, 0), -10000);
    }

    private static void flyByLaw() {
        PointFirst x = new PointFirst();
        x.spear(3, 0);
        x.spear(5, 7);
        // asked in the first tick alone, shown by the dip of the pitch: 0 less that
        String[] asked = {"fore-22", "up+4", "height-172", "pitch+5", "wind-12", "side+22", "soft+1", "tip-1", "tick+3"};
        int[] want = {8, 4, 8, 5, 8, 2, 6, 6, 3};
        for (int k = 0; k < asked.length; k++) {
            Due.law(x, 0, "dip " + asked[k] + " when tick<1;", 1);
            Due.due("asked " + asked[k], x.fly(10, 0, 0, 1, 20, -20, 6), -want[k]);
        }
        // all is asked as it was ahead of the tick
        Due.law(x, 0, "lift 7 when tick=0;drag 5 when up=0;dip up+3 when tick=0;drift fore/10 when tick=0;", 4);
        Due.due("drag by the up ahead", x.fly(10, 0, 0, 0, 0, 0, 0), 25 * x.fly(10, 0, 0, 0, 0, 0, 3));
        Due.due("dip by the up ahead", x.fly(10, 0, 0, 0, 0, 0, 6), -3);
        Due.due("drift by the fore ahead", x.fly(10, 0, 0, 0, 0, 0, 2), 3 * x.fly(10, 0, 0, 0, 0, 0, 3));
        // tick 0 to 5: the drift of 0 1 2 is out 0 1 3 3 3 3
        Due.law(x, 0, "dip 1;drift tick when tick<3;", 2);
        Due.due("out grows, off more", x.fly(10, 0, 0, 0, 0, 0, 2), 13);
        Due.law(x, 0, "dip 1;drift 0-1;", 2);
        Due.due("off the other way", x.fly(10, 0, 0, 0, 0, 0, 2), -21);
        Due.due("21 by 7 is 147", x.fly(10, 0, 0, 0, 0, 0, 5), 1);
        x.set(4, 0, 9);
        Due.due("21 by 9 is 189", x.fly(10, 0, 0, 0, 0, 0, 5), 0);
        x.set(4, 0, 8);
        Due.due("21 by 8 is 168", x.fly(10, 0, 0, 0, 0, 0, 5), 1);
        Due.law(x, 0, "dip 1;dip 2;lift 1 when up<0;lift 9 when up<0-100;", 4);
        Due.due("the first line", x.fly(10, 0, 0, 0, 0, 0, 6), -6);
        x.set(1, 0, 20);
        Due.law(x, 0, "dip side;", 1);
        Due.due("the side told to fly", x.fly(10, 0, 0, 0, 0, 1, 6), -6);
    }

    private static void flyHeld() {
        PointFirst x = Due.ready();
        Due.law(x, 0, "lift 99 when tick=0;", 1);
        Due.due("lift 20", x.fly(10, 0, 0, 0, 0, 0, 4), 190);
        Due.law(x, 0, "lift 0-99;", 1);
        Due.due("lift -20: 30, 60, 90 down", x.fly(10, 0, 0, 0, 0, 0, 3), 3);
        x.throwIt(10, 0, 0, 0);
        Due.due("30 down", x.path(0, 1, 1), 150);
        Due.due("60 more", x.path(0, 2, 1), 90);
        Due.law(x, 0, "drag 99 when tick=0;", 1);
        Due.due("drag 50", x.fly(20, 0, 0, 0, 0, 0, 0), 60);
        Due.law(x, 0, "drag 0-9;", 1);
        Due.due("drag 0", x.fly(20, 0, 0, 0, 0, 0, 0), 360);
        Due.law(x, 0, "drag 50;", 1);
        Due.due("fore 0 at least", x.fly(20, 0, 0, 0, 0, 0, 0), 10);
        Due.law(x, 0, "dip 99;drift 99;", 2);
        Due.due("dip 9", x.fly(20, 0, 0, 0, 0, 0, 6), -54);
        Due.due("drift 9", x.fly(20, 0, 0, 0, 0, 0, 2), 189);
        Due.law(x, 0, "dip 0-99;drift 0-99;", 2);
        Due.due("dip -9", x.fly(20, 0, 0, 0, 0, 0, 6), 54);
        Due.due("drift -9", x.fly(20, 0, 0, 0, 0, 0, 2), -189);
    }

    private static void flyLong() {
        PointFirst x = Due.ready();
        Due.law(x, 0, "lift 10;dip 1;", 2);
        Due.due("four hundred", x.fly(1, 0, 0, 0, 0, 0, 3), 400);
        Due.due("far", x.fly(1, 0, 0, 0, 0, 0, 0), 1200);
        Due.due("landed all the same", x.fly(1, 0, 0, 0, 0, 0, 5), 1);
        Due.due("pitch", x.fly(1, 0, 0, 0, 0, 0, 6), -400);
        Due.due("the far that can be", x.needed(0, 0, 0, 118800), 99);
        Due.due("and no more", x.needed(0, 0, 0, 118801), -1);
        // 180 less 10, 20, 30, 40, 50, 60 is -30: 15 more in tick 4 and 5 make that 0
        Due.law(x, 0, "lift 15 when tick=4;", 1);
        Due.due("0", x.fly(1, 0, 0, 0, 0, 0, 3), 6);
        Due.law(x, 0, "lift 15 when tick=4;lift 1 when tick=5;", 2);
        Due.due("1 flies on", x.fly(1, 0, 0, 0, 0, 0, 3), 7);
        Due.law(x, 0, "", 0);
        Due.due("0 is landed", x.fly(20, 30, 0, 0, 0, 0, 3), 9);
    }

    /** By no law but a dip in the first tick the pitch it lands with is the angle less 9. */
    private static void angle() {
        PointFirst x = Due.ready();
        Due.law(x, 0, "dip 9 when tick=0;", 1);
        int most = -1;
        int at = -1;
        for (int a = 0; a <= 8; a++) {
            int far = x.fly(20, a, 0, 0, 0, 0, 0);
            if (far > most) {
                most = far;
                at = a;
            }
        }
        Due.due("of 0 to 8", x.angle(20, 0, 0, 0), at);
        Due.due("so far", x.angle(20, 0, 0, 1), most);
        Due.law(x, 0, "dip 9 when tick<9;", 1);
        Due.due("no force: all the same, the least", x.angle(0, 0, 0, 0), 0);
        Due.due("its far", x.angle(0, 0, 0, 1), 0);
        Due.law(x, 0, "dip 9;", 1);
        most = -1;
        for (int a = 0; a <= 60; a++) {
            int far = x.fly(99, a, 0, 0, -29, 0, 5) == 1 ? x.fly(99, a, 0, 0, -29, 0, 0) : -1;
            if (far > most) {
                most = far;
                at = a;
            }
        }
        Due.due("of 0 to 60", x.angle(99, 0, -29, 0), at);
        Due.due("that far", x.angle(99, 0, -29, 1), most);
        Due.law(x, 0, "dip 9;drag 50 when wind>0 or side>0;lift 20 when pitch=61 and tick=0;", 3);
        Due.due("wind as told", x.angle(99, 0, 1, 1) < x.angle(99, 0, 0, 1), true);
        Due.due("61 is not asked", x.angle(99, 0, 0, 0) <= 60, true);
        int free = x.angle(99, 0, 0, 1);
        x.set(1, 0, 1);
        Due.due("side as now", x.angle(99, 0, 0, 1) < free, true);
        x.set(1, 0, 0);
        // by force 99 the angle 60 alone flies 148 a tick
        Due.law(x, 0, "dip 9 when fore=148;", 1);
        Due.due("60 alone", x.angle(99, 0, 0, 0), 60);
        Due.due("60 alone is safe", x.angle(99, 0, 0, 2), 60);
        int most60 = x.angle(99, 0, 0, 1);
        Due.due("99 by 60 alone comes so far", x.leastForce(0, 0, most60, 0), 99);
        Due.due("that angle", x.leastForce(0, 0, most60, 1), 60);
        Due.law(x, 0, "", 0);
        Due.due("none good", x.angle(20, 0, 0, 0), -1);
        Due.due("none good, far", x.angle(20, 0, 0, 1), -1);
        Due.law(x, 0, Due.DIP, 1);
        int[][] bad = {{-1, 0, 0, 0}, {100, 0, 0, 0}, {1, 1, 0, 0}, {1, -1, 0, 0}, {1, 0, 30, 0}, {1, 0, -30, 0},
            {1, 0, 0, -1}, {1, 0, 0, 4}};
        for (int[] b : bad) {
            Due.due("angle refused", x.angle(b[0], b[1], b[2], b[3]), -1);
        }
    }

    private static void safe() {
        PointFirst x = Due.ready();
        Due.law(x, 0, "dip 9 when tick<2;", 1);
        // good are the angles 0 to 17
        x.set(3, 0, 3);
        int most = -1;
        int at = -1;
        for (int a = 0; a <= 14; a++) {
            int least = 1000000;
            for (int s = -3; s <= 3; s++) {
                least = Math.min(least, x.fly(40, Math.max(0, a + s), 0, 0, 0, 0, 0));
            }
            if (least > most) {
                most = least;
                at = a;
            }
        }
        Due.due("safe", x.angle(40, 0, 0, 2), at);
        Due.due("its least far", x.angle(40, 0, 0, 3), most);
        Due.due("the angle itself asks no slip", x.angle(40, 0, 0, 0) > 14, true);
        x.set(3, 0, 0);
        Due.due("without slips the same", x.angle(40, 0, 0, 2), x.angle(40, 0, 0, 0));
        Due.due("and as far", x.angle(40, 0, 0, 3), x.angle(40, 0, 0, 1));
        x.set(3, 0, 9);
        Due.due("0 to 9 below, 8 above", x.angle(40, 0, 0, 2) <= 8, true);
        Due.law(x, 0, "dip 9 when tick=0;", 1);
        Due.due("angles 0 to 8 are good: none with nine more", x.angle(40, 0, 0, 2), -1);
        Due.due("nor far", x.angle(40, 0, 0, 3), -1);
        x.set(3, 0, 8);
        Due.due("0 has 0 to 8", x.angle(40, 0, 0, 2), 0);
        PointFirst y = Due.ready();
        Due.law(y, 0, "dip 1 when tick=0;", 1);
        Due.due("0 alone", y.angle(20, 0, 0, 3), 360);
        // above 60 the slip goes on: 69 at most
        Due.law(x, 0, "dip 9;lift 20 when tick<5;drag 9 when pitch>60 and tick=0;dip 0-9;", 4);
        x.set(3, 0, 9);
        int up = x.angle(30, 0, 0, 2);
        Due.due("a safe one", up >= 0 && up <= 60, true);
        // what begins below 51 comes 0 far: 60 alone has none such within nine
        Due.law(x, 0, "dip 9;drag 50 when pitch<51 and tick=0;", 2);
        Due.due("60 is safe", x.angle(20, 0, 0, 2), 60);
        Due.due("as far as 69", x.angle(20, 0, 0, 3), x.fly(20, 69, 0, 0, 0, 0, 0));
        // 0 alone is not good: who has it within three is not safe
        x.set(3, 0, 3);
        Due.law(x, 0, "dip 0-9 when fore=60;drag 50 when pitch>6 and tick=0;dip 9;", 3);
        Due.due("0 is bad", x.fly(20, 0, 0, 0, 0, 0, 5), 0);
        Due.due("1 is not", x.fly(20, 1, 0, 0, 0, 0, 5), 1);
        Due.due("so above 3", x.angle(20, 0, 0, 2) > 3, true);
    }

    private static void right() {
        PointFirst x = new PointFirst();
        Due.due("no spears", x.right(50, 0), -1);
        x.spear(0, 0);
        x.spear(0, 3);
        x.spear(0, 3);
        x.spear(0, 1);
        Due.due("none good", x.right(50, 0), -1);
        Due.law(x, 0, "dip 5;lift tip when tick=0;", 2);
        Due.due("the first of the farthest", x.right(50, 0), 1);
        Due.law(x, 0, "dip 5;lift tip when tick=0 and wind>0;", 2);
        Due.due("all alike", x.right(50, 0), 0);
        Due.due("by wind", x.right(50, 29), 1);
        Due.law(x, 0, "dip 5 when tip=1;", 1);
        Due.due("the only good one", x.right(50, 0), 3);
        Due.law(x, 0, "dip 5 when tip=0;", 1);
        Due.due("by force 0", x.right(0, 0), 0);
        PointFirst y = new PointFirst();
        y.spear(0, 9);
        Due.law(y, 0, "dip 5;drag tip;", 2);
        Due.due("one there is not", y.right(50, 0), 0);
        int[][] bad = {{-1, 0}, {100, 0}, {50, 30}, {50, -30}};
        for (int[] b : bad) {
            Due.due("right refused", x.right(b[0], b[1]), -1);
        }
    }

    private static void winds() {
        PointFirst x = Due.ready();
        Due.law(x, 0, "drag 0-wind when wind<0;drag 1 when side=5;", 2);
        // 51 a tick less the wind against, nine ticks, tail first
        Due.due("not good all the same", x.fly(20, 30, 0, 0, 0, 0, 5), 0);
        long still = (1L << 41) - (1L << 20);
        Due.due("0 to 20", x.winds(20, 30, 0, 459, 0), still);
        int one = x.fly(20, 30, 0, 0, -1, 0, 0);
        Due.due("-1 alone", x.winds(20, 30, 0, one, 0), 1L << 19);
        Due.due("up to that less", x.winds(20, 30, 0, one, 459 - one), still | 1L << 19 | extra(x, one));
        Due.due("one less is not", x.winds(20, 30, 0, one, 458 - one) & still, 0);
        Due.due("e -1", x.winds(20, 30, 0, 459, -1), -1);
        Due.due("e 1000", x.winds(20, 30, 0, 459, 1000), -1);
        Due.due("e 999: all", x.winds(20, 30, 0, 459, 999), (1L << 41) - 1);
        Due.due("far of none", x.winds(20, 30, 0, 2000, 999), 0);
        Due.due("far below 0", x.winds(20, 30, 0, -1000, 999), 0);
        Due.due("far least", x.winds(20, 30, 0, Integer.MIN_VALUE, 999), 0);
        Due.due("far most", x.winds(20, 30, 0, Integer.MAX_VALUE, 999), 0);
        x.set(1, 0, 5);
        Due.due("side as now", x.winds(20, 30, 0, 459, 0), 0);
        Due.law(x, 0, "drag 50 when pitch=31 and tick=0;", 1);
        Due.due("lie 0", x.winds(20, 30, 0, 459, 0), (1L << 41) - 1);
        int[][] bad = {{-1, 0, 0}, {100, 0, 0}, {1, -1, 0}, {1, 61, 0}, {1, 1, 1}, {1, 1, -1}};
        for (int[] b : bad) {
            Due.due("winds refused", x.winds(b[0], b[1], b[2], 0, 0), -1);
        }
    }

    private static long extra(PointFirst x, int far) {
        long set = 0;
        for (int w = -20; w < -1; w++) {
            if (far - x.fly(20, 30, 0, 0, w, 0, 0) <= 459 - far) {
                set |= 1L << (w + 20);
            }
        }
        return set;
    }

    private static void still() {
        PointFirst x = Due.ready();
        Due.law(x, 0, "dip 5;drag 5 when wind<0;drag 3 when wind>0;drag 1 when side=9;", 4);
        x.set(0, 0, -9);
        x.throwIt(20, 30, 0, 0);
        Due.due("by the wind", x.book(0, 7) < 459, true);
        Due.due("without", x.still(0), 459);
        x.set(1, 0, 9);
        Due.due("side as now", x.still(0) < 459, true);
        Due.due("line 1", x.still(1), -1);
        Due.due("line -1", x.still(-1), -1);
        x.set(1, 0, 0);
        x.spear(1, 1);
        Due.law(x, 0, "dip 5;drag 50 when tip=1;", 2);
        Due.due("by its spear", x.still(0), 459);
        x.set(3, 0, 9);
        x.state(0);
        x.throwIt(20, 40, 0, 0);
        Due.law(x, 0, "dip 5;drag 50 when pitch=1+30 and tick=0;", 2);
        Due.due("lie 0", x.still(0), 459);
        Due.due("by the angle with the slip", x.still(1), x.fly(20, x.book(1, 5), 0, 0, 0, 0, 0));
    }

    private static void holds() {
        PointFirst x = Due.ready();
        x.set(5, 0, 50);
        Due.due("no wear: sixty", x.holds(0, 20, 30), 60);
        Due.law(x, 1, "wear 100;", 1);
        Due.due("ten", x.holds(0, 20, 30), 10);
        Due.due("the least throw", x.holds(0, 0, 0), 10);
        x.set(6, 0, 1);
        Due.due("the last one counts", x.holds(0, 20, 30), 10);
        x.set(6, 0, 999);
        Due.due("one", x.holds(0, 20, 30), 1);
        x.set(6, 0, 1000);
        Due.due("none", x.holds(0, 20, 30), 0);
        x.set(6, 0, 0);
        Due.law(x, 1, "wear 17;", 1);
        Due.due("fifty-nine", x.holds(0, 20, 30), 59);
        Due.law(x, 1, "wear 16;", 1);
        Due.due("sixty at most", x.holds(0, 20, 30), 60);
        Due.law(x, 1, "wear force*4;", 1);
        Due.due("power at most: 200", x.holds(0, 99, 30), 5);
        Due.due("80", x.holds(0, 20, 30), 13);
        Due.law(x, 1, "wear angle*10+pace*500;", 1);
        Due.due("300, pace 0", x.holds(0, 20, 30), 4);
        Due.law(x, 1, "wear thrown*100+100;", 1);
        Due.due("100 200 300 400", x.holds(0, 20, 30), 4);
        x.throwIt(20, 30, 0, 0);
        x.set(6, 0, 0);
        Due.due("200 300 400 500", x.holds(0, 20, 30), 4);
        Due.law(x, 1, "wear wearing+10;", 1);
        Due.due("10 30 70 150 310 630 1000", x.holds(0, 20, 30), 7);
        Due.law(x, 1, "wear best*100;", 1);
        Due.due("best 4 as now", x.holds(0, 99, 30), 3);
        Due.law(x, 1, "wear round*500;", 1);
        Due.due("round 1 as now", x.holds(0, 99, 30), 2);
        Due.law(x, 1, "wear power*5;", 1);
        Due.due("power 50", x.holds(0, 99, 30), 4);
        int[][] bad = {{1, 0, 0}, {-1, 0, 0}, {0, -1, 0}, {0, 100, 0}, {0, 0, -1}, {0, 0, 61}};
        for (int[] b : bad) {
            Due.due("holds refused", x.holds(b[0], b[1], b[2]), -1);
        }
    }

    /** By angle 30 a force of 54 comes 2502, of 59 2888, of 64 3320 cm far. */
    private static void chance() {
        PointFirst x = Due.ready();
        Due.due("54", x.fly(54, 30, 0, 0, 0, 0, 0), 2502);
        Due.due("59", x.fly(59, 30, 0, 0, 0, 0, 0), 2888);
        Due.due("sure", x.chance(0, 2502, 1, 30, 0, 0), 1000000);
        Due.due("by the first", x.chance(0, 2502, 1, 30, 0, 1), 54);
        Due.due("one cm more", x.chance(0, 2503, 1, 30, 0, 1), 59);
        Due.due("no throws", x.chance(0, 0, 0, 30, 0, 0), 0);
        Due.due("none more", x.chance(0, 0, 0, 30, 0, 1), 0);
        Due.due("too far", x.chance(0, 99999, 6, 30, 0, 0), 0);
        Due.due("none more then", x.chance(0, 99999, 6, 30, 0, 1), 0);
        Due.due("a mark below 0", x.chance(0, -5, 1, 30, 0, 1), 54);
        x.set(0, 0, -9);
        Due.law(x, 0, "dip 5;drag 1 when wind<0;", 2);
        Due.due("wind as now", x.chance(0, 2502, 1, 30, 0, 1), 59);
        x.set(0, 0, 0);
        Due.law(x, 0, "dip 5;drift side;", 2);
        Due.due("good", x.chance(0, 2502, 1, 30, 0, 1), 54);
        x.set(1, 0, 20);
        Due.due("side as now: none is good", x.chance(0, 2502, 1, 30, 0, 1), 0);
        int[][] bad = {{1, 0, 1, 0, 0, 0}, {-1, 0, 1, 0, 0, 0}, {0, 0, -1, 0, 0, 0}, {0, 0, 7, 0, 0, 0},
            {0, 0, 1, -1, 0, 0}, {0, 0, 1, 61, 0, 0}, {0, 0, 1, 0, 1, 0}, {0, 0, 1, 0, -1, 0}, {0, 0, 1, 0, 0, 2},
            {0, 0, 1, 0, 0, -1}};
        for (int[] b : bad) {
            Due.due("chance refused", x.chance(b[0], b[1], b[2], b[3], b[4], b[5]), -1);
        }
    }

    private static void chanceByArms() {
        PointFirst x = Due.ready();
        Due.law(x, 1, "over 333;", 1);
        Due.due("667", x.chance(0, 2502, 1, 30, 0, 0), 667000);
        Due.due("downwards", x.chance(0, 2502, 2, 30, 0, 0), 889111);
        Due.due("and once more", x.chance(0, 2502, 3, 30, 0, 0), 667000 + 333000L * 889111 / 1000000);
        Due.law(x, 1, "over 500;wear force*10;", 2);
        Due.due("590 twice is all", x.chance(0, 2600, 6, 30, 0, 0), 750000);
        Due.due("the last one counts", x.chance(0, 2600, 2, 30, 0, 0), 750000);
        x.set(6, 0, 999);
        Due.due("one throw", x.chance(0, 2600, 6, 30, 0, 0), 500000);
        x.set(6, 0, 1000);
        Due.due("none", x.chance(0, 2600, 6, 30, 0, 0), 0);
        Due.due("by none more", x.chance(0, 2600, 6, 30, 0, 1), 0);
        x.set(6, 0, 0);
        Due.law(x, 1, "over 9999;", 1);
        Due.due("always over", x.chance(0, 2600, 6, 30, 0, 1), 0);
        Due.due("0 of a million", x.chance(0, 2600, 6, 30, 0, 0), 0);
        Due.law(x, 1, "over 9999 when thrown=0;over 500;", 2);
        Due.due("over surely, then half", x.chance(0, 2600, 2, 30, 0, 0), 500000);
        Due.due("over is 1000 at most", x.chance(0, 0, 2, 30, 0, 0), 500000);
        Due.law(x, 1, "over 1000 when force>54;over 500;", 2);
        Due.due("54 twice", x.chance(0, 2500, 2, 30, 0, 0), 750000);
        Due.law(x, 1, "over 1000-force*10;", 1);
        Due.due("the hardest is likeliest", x.chance(0, 2600, 1, 30, 0, 1), 99);
        Due.due("990 of a thousand", x.chance(0, 2600, 1, 30, 0, 0), 990000);
        Due.law(x, 1, "over thrown*100+100;", 1);
        Due.due("thrown as it would be", x.chance(0, 2600, 2, 30, 0, 0), 900000 + 100000L * 800000 / 1000000);
        Due.law(x, 1, "over wearing;wear 200;", 2);
        Due.due("wearing as it would be", x.chance(0, 2600, 2, 30, 0, 0), 1000000);
        x.set(6, 0, 100);
        Due.due("100 and 300", x.chance(0, 2600, 2, 30, 0, 0), 900000 + 100000L * 700000 / 1000000);
        // 59 wears less than 99, yet is over more often: the first throw spares for the second
        x.set(6, 0, 0);
        Due.law(x, 1, "over 600 when force<90;over 500;wear 500 when force<90;wear 1000;", 4);
        Due.due("twice 400", x.chance(0, 2600, 2, 30, 0, 0), 400000 + 600000L * 500000 / 1000000);
        Due.due("by 59 first", x.chance(0, 2600, 2, 30, 0, 1), 59);
        Due.due("by 94 alone", x.chance(0, 2600, 1, 30, 0, 1), 94);
        Due.law(x, 1, "over angle*10+pace*99+power+best+round;", 1);
        Due.due("300 and 99", x.chance(0, 2600, 1, 30, 0, 0), 601000);
        x.throwIt(20, 30, 0, 0);
        Due.due("best 4, round 1", x.chance(0, 2600, 1, 30, 0, 0), 596000);
    }

    /** Forces above his POWER can't be chosen: they are left out, not held to it. */
    private static void chanceByPower() {
        PointFirst x = Due.ready();
        x.set(5, 0, 60);
        Due.due("59", x.chance(0, 2888, 1, 30, 0, 0), 1000000);
        Due.due("by 59", x.chance(0, 2888, 1, 30, 0, 1), 59);
        Due.due("60 would come so far", x.fly(60, 30, 0, 0, 0, 0, 0), 2945);
        Due.due("but is none of them", x.chance(0, 2945, 6, 30, 0, 0), 0);
        Due.due("none more is left", x.chance(0, 2945, 6, 30, 0, 1), 0);
        // over by what a force above his POWER would be less often over
        Due.law(x, 1, "over 900-force*10;", 1);
        Due.due("59 is the hardest", x.chance(0, 0, 1, 30, 0, 1), 59);
        Due.due("310 less", x.chance(0, 0, 1, 30, 0, 0), 690000);
        x.set(5, 0, 59);
        Due.due("59 is 59 at most", x.chance(0, 0, 1, 30, 0, 1), 59);
        x.set(5, 0, 58);
        Due.due("59 is above 58", x.chance(0, 0, 1, 30, 0, 1), 54);
        x.set(5, 0, 54);
        Due.due("54 is 54 at most", x.chance(0, 0, 1, 30, 0, 1), 54);
        Due.due("360 less", x.chance(0, 0, 1, 30, 0, 0), 640000);
        Due.due("and then again", x.chance(0, 0, 2, 30, 0, 0), 640000 + 360000L * 640000 / 1000000);
        x.set(5, 0, 53);
        Due.due("all are above 53", x.chance(0, 0, 6, 30, 0, 0), 0);
        Due.due("none more by 53", x.chance(0, 0, 6, 30, 0, 1), 0);
        x.set(5, 0, 99);
        Due.due("99 is 99 at most", x.chance(0, 0, 1, 30, 0, 1), 94);
        Due.law(x, 1, "over 999-force*10;", 1);
        Due.due("99 is likeliest", x.chance(0, 0, 1, 30, 0, 1), 99);
        x.set(5, 0, 98);
        Due.due("99 is above 98", x.chance(0, 0, 1, 30, 0, 1), 94);
    }

    private static void waitFor() {
        PointFirst x = Due.ready();
        Due.law(x, 0, "dip 5 when wind<9;drag 0-wind when wind<0;", 2);
        Due.due("no gusts", x.waitFor(20, 30, 0, 0), -1);
        Due.due("no gusts, far", x.waitFor(20, 30, 0, 1), -1);
        x.gust(9);
        Due.due("not good", x.waitFor(20, 30, 0, 0), -1);
        x.gust(-29);
        x.gust(3);
        x.gust(4);
        Due.due("the first of several", x.waitFor(20, 30, 0, 0), 2);
        Due.due("its far", x.waitFor(20, 30, 0, 1), 459);
        x.set(1, 0, 20);
        Due.law(x, 0, "dip 5;drift side;", 2);
        Due.due("side as now", x.waitFor(20, 30, 0, 0), -1);
        Due.law(x, 0, Due.DIP, 1);
        int[][] bad = {{-1, 0, 0, 0}, {100, 0, 0, 0}, {1, -1, 0, 0}, {1, 61, 0, 0}, {1, 1, 1, 0}, {1, 1, -1, 0},
            {20, 30, 0, 2}, {20, 30, 0, -1}};
        for (int[] b : bad) {
            Due.due("waitFor refused", x.waitFor(b[0], b[1], b[2], b[3]), -1);
        }
        Due.due("the first", x.waitFor(20, 30, 0, 0), 0);
    }

    private static void leastForce() {
        PointFirst x = Due.ready();
        Due.due("mark 0", x.leastForce(0, 0, 0, 0), 0);
        Due.due("by angle 0", x.leastForce(0, 0, 0, 1), 0);
        Due.due("a mark below 0", x.leastForce(0, 0, -7, 0), 0);
        for (int mark : new int[] {180, 459, 2000, 5001}) {
            int force = x.leastForce(0, 0, mark, 0);
            int angle = x.leastForce(0, 0, mark, 1);
            Due.due("so far", x.fly(force, angle, 0, 0, 0, 0, 0) >= mark, true);
            Due.due("good", x.fly(force, angle, 0, 0, 0, 0, 5), 1);
            Due.due("not by less", x.angle(force - 1, 0, 0, 1) < mark, true);
            for (int a = 0; a < angle; a++) {
                boolean does = x.fly(force, a, 0, 0, 0, 0, 5) == 1 && x.fly(force, a, 0, 0, 0, 0, 0) >= mark;
                Due.due("nor by less of angle", does, false);
            }
        }
        int most = x.angle(99, 0, 5, 1);
        Due.due("the most there is", x.leastForce(0, 5, most, 0), 99);
        Due.due("by its angle", x.leastForce(0, 5, most, 1), x.angle(99, 0, 5, 0));
        Due.due("no more", x.leastForce(0, 5, most + 1, 0), -1);
        Due.due("no angle then", x.leastForce(0, 5, most + 1, 1), -1);
        Due.law(x, 0, "dip 5;drag 2 when wind=29;drag 2 when side=20;", 3);
        int free = x.leastForce(0, 0, 2000, 0);
        Due.due("wind as told", x.leastForce(0, 29, 2000, 0) > free, true);
        x.set(1, 0, 20);
        Due.due("side as now", x.leastForce(0, 0, 2000, 0) > free, true);
        int[][] bad = {{1, 0, 0, 0}, {-1, 0, 0, 0}, {0, 30, 0, 0}, {0, -30, 0, 0}, {0, 0, 0, 2}, {0, 0, 0, -1}};
        for (int[] b : bad) {
            Due.due("leastForce refused", x.leastForce(b[0], b[1], b[2], b[3]), -1);
        }
    }

    private static void better() {
        PointFirst x = new PointFirst();
        x.spear(0, 0);
        x.spear(0, 9);
        x.spear(0, 0);
        Due.law(x, 0, "dip 5;drag 1 when tip=0 and wind=0-20;dip 0-9 when tip=9 and tick=0;", 3);
        Due.due("less far alone", x.better(20, 30, 1, 0), 1);
        Due.due("not better", x.better(20, 30, 0, 1), 0);
        Due.due("the same", x.better(20, 30, 0, 2), 0);
        Due.law(x, 0, "dip 5 when wind>19 or tip=0;", 1);
        Due.due("not good", x.better(20, 30, 0, 1), (1L << 40) - 1);
        Due.due("the other way", x.better(20, 30, 1, 0), 0);
        Due.law(x, 0, "dip 5 when side=0;drag 1 when tip=0;", 2);
        Due.due("all winds", x.better(20, 30, 1, 0), (1L << 41) - 1);
        x.set(1, 0, 1);
        Due.due("side as now", x.better(20, 30, 1, 0), 0);
        int[][] bad = {{-1, 0, 0, 1}, {100, 0, 0, 1}, {1, -1, 0, 1}, {1, 61, 0, 1}, {1, 1, 3, 1}, {1, 1, -1, 1},
            {1, 1, 0, 3}, {1, 1, 0, -1}};
        for (int[] b : bad) {
            Due.due("better refused", x.better(b[0], b[1], b[2], b[3]), -1);
        }
    }

    private static void span() {
        PointFirst x = Due.ready();
        Due.law(x, 0, "drag 5 when wind=0-3;drag 1 when side=2;", 2);
        x.set(0, 0, -3);
        x.throwIt(20, 30, 0, 0);
        Due.due("no slip: the least", x.span(0, 0), 459);
        Due.due("the greatest", x.span(0, 1), 459);
        x.set(3, 0, 4);
        int least = 1000000;
        int most = 0;
        for (int a = 26; a <= 34; a++) {
            least = Math.min(least, x.fly(20, a, 0, 0, 0, 0, 0));
            most = Math.max(most, x.fly(20, a, 0, 0, 0, 0, 0));
        }
        Due.due("slip 4: the least", x.span(0, 0), least);
        Due.due("slip 4: the greatest", x.span(0, 1), most);
        x.set(1, 0, 2);
        Due.due("side as now", x.span(0, 1) < most, true);
        x.set(1, 0, 0);
        x.set(3, 0, 0);
        x.throwIt(40, 0, 0, 0);
        x.set(3, 0, 9);
        least = 1000000;
        most = 0;
        for (int a = 0; a <= 9; a++) {
            least = Math.min(least, x.fly(40, a, 0, 0, 0, 0, 0));
            most = Math.max(most, x.fly(40, a, 0, 0, 0, 0, 0));
        }
        Due.due("held to 0: the least", x.span(1, 0), least);
        Due.due("held to 0: the greatest", x.span(1, 1), most);
        Due.law(x, 0, "drag 50 when fore=120;drag 1 when wind=1;", 2);
        Due.due("0 itself", x.span(1, 0), x.fly(40, 0, 0, 0, 0, 0, 0));
        Due.law(x, 0, "drag 0-9 when fore=120 and wind=0;drag 50 when tick=0;", 2);
        Due.due("0 itself, the greatest", x.span(1, 1), 720);
        Due.due("line 2", x.span(2, 0), -1);
        Due.due("line -1", x.span(-1, 0), -1);
        Due.due("what 2", x.span(0, 2), -1);
        Due.due("what -1", x.span(0, -1), -1);
    }

    private static void train() {
        PointFirst x = Due.ready();
        x.set(5, 0, 50);
        Due.due("no law", x.train(0, 12, 1000, 0), 50);
        Due.due("the fewest", x.train(0, 12, 1000, 1), 0);
        Due.law(x, 3, "gain balls;cost balls*10;", 2);
        Due.due("three a week", x.train(0, 12, 1000, 0), 86);
        Due.due("from the first", x.train(0, 12, 1000, 1), 3);
        Due.due("two weeks by 40", x.train(0, 2, 40, 0), 54);
        Due.due("one and three", x.train(0, 2, 40, 1), 1);
        Due.due("a wear of 0", x.train(0, 2, 0, 0), 50);
        Due.due("none at all", x.train(0, 2, 0, 1), 0);
        x.set(5, 0, 95);
        Due.due("99 at most", x.train(0, 12, 1000, 0), 99);
        Due.due("slowly then", x.train(0, 12, 1000, 1), 0);
        x.set(5, 0, 0);
        Due.due("from power 0", x.train(0, 1, 10, 0), 1);
        Due.due("to power 0", x.train(0, 1, 0, 0), 0);
        Due.law(x, 3, "gain 50;", 1);
        x.set(5, 0, 50);
        Due.due("9 a week", x.train(0, 1, 0, 0), 59);
        Due.law(x, 3, "gain 0-5;", 1);
        Due.due("0 a week", x.train(0, 1, 0, 0), 50);
        Due.law(x, 3, "gain balls;cost 999*balls;", 2);
        Due.due("200 by one", x.train(0, 1, 200, 0), 53);
        Due.due("199 is not enough", x.train(0, 1, 199, 0), 50);
        x.set(6, 0, 300);
        Due.due("above it at once", x.train(0, 1, 299, 0), -1);
        Due.due("no hundreds", x.train(0, 1, 299, 1), -1);
        Due.law(x, 3, "gain balls;cost 0-999;", 2);
        Due.due("200 less by one", x.train(0, 1, 100, 0), 53);
        Due.due("not 201", x.train(0, 1, 99, 0), -1);
        Due.due("0 at least", x.train(0, 2, 100, 0), 56);
        x.set(6, 0, 990);
        Due.law(x, 3, "gain 1;cost 200;", 2);
        Due.due("1000 at most", x.train(0, 2, 1000, 0), 52);
        int[][] bad = {{1, 1, 0, 0}, {-1, 1, 0, 0}, {0, 0, 0, 0}, {0, 13, 1000, 0}, {0, 1, -1, 0}, {0, 1, 1001, 0},
            {0, 1, 1000, 2}, {0, 1, 1000, -1}};
        for (int[] b : bad) {
            Due.due("train refused", x.train(b[0], b[1], b[2], b[3]), -1);
        }
    }

    private static void trainByLaw() {
        PointFirst x = Due.ready();
        x.set(5, 0, 50);
        Due.law(x, 3, "gain 9 when week=2 and balls=1;gain 1 when week=0 and balls=2;", 2);
        Due.due("by the week", x.train(0, 3, 1000, 0), 60);
        Due.due("two first", x.train(0, 3, 1000, 1), 2);
        Due.law(x, 3, "gain 9 when wearing>399;gain 1;cost balls*100;", 3);
        Due.due("by wearing: 1 and 1 and 9", x.train(0, 3, 1000, 0), 61);
        Due.due("200 a week at most: two first", x.train(0, 3, 1000, 1), 2);
        Due.law(x, 3, "gain 9 when wearing>299;gain 1;cost balls*100;", 3);
        Due.due("one hundred is enough with two", x.train(0, 3, 1000, 1), 1);
        Due.law(x, 3, "gain balls when power=50;gain 9 when power=52;", 2);
        Due.due("by the power as it is then", x.train(0, 2, 1000, 0), 61);
        Due.due("two of three", x.train(0, 2, 1000, 1), 2);
        Due.law(x, 3, "gain balls;cost balls*100-wearing/2;", 2);
        // every way of three weeks, by 350 at most
        int most = -1;
        int first = -1;
        for (int way = 0; way < 64; way++) {
            int wear = 0;
            int power = 50;
            boolean can = true;
            for (int week = 0; week < 3; week++) {
                int balls = way >> (4 - 2 * week) & 3;
                power += balls;
                wear = Math.max(0, Math.min(1000, wear + Math.min(200, balls * 100 - wear / 2)));
                can &= wear <= 350;
            }
            if (can && power > most) {
                most = power;
                first = way >> 4;
            }
        }
        Due.due("of all ways the best", x.train(0, 3, 350, 0), most);
        Due.due("its first", x.train(0, 3, 350, 1), first);
    }

    private static void would() {
        PointFirst x = Due.ready();
        x.thrower(25);
        Due.plan(x, 0, "throw 20 at 30 with 0 below 4;throw 30 at 30 with 0 below 4;pass;throw 25 at 30 with 0;", 4);
        Due.plan(x, 1, "pass;throw 20 at 30 with 0 pace 9;", 2);
        Due.due("459, then 640", x.would(0), 640);
        Due.due("his power", x.would(1), 640);
        x.turnsGo(7);
        Due.due("it was so", x.of(0, 2), 640);
        Due.due("and is no more", x.would(0), 640);
        x.throwIt(1, 1, 0, 0);
        x.meet();
        for (int i = 0; i < 6; i++) {
            x.pass();
        }
        Due.due("three orders of four are left", x.would(0), 459);
        for (int i = 0; i < 4; i++) {
            x.pass();
        }
        Due.due("one is left", x.would(0), 459);
        Due.due("a pass alone", x.would(1), 0);
        Due.plan(x, 0, "pass;throw 20 at 30 with 0;", 2);
        Due.due("one round is left", x.would(0), 0);
        Due.plan(x, 0, "throw 20 at 30 with 0;", 1);
        x.pass();
        Due.due("his turn is gone", x.would(0), 0);
        x.pass();
        Due.due("over", x.would(1), 0);
        Due.due("none such", x.would(2), -1);
        Due.due("nor that", x.would(-1), -1);
        x.meet();
        x.pass();
        Due.plan(x, 0, "pass;pass;pass;pass;throw 20 at 30 with 0;throw 25 at 30 with 0;", 6);
        Due.due("five rounds are left", x.would(0), 459);
        x.meet();
        Due.plan(x, 0, "throw 20 at 30 with 0;pass;throw 25 at 30 with 0;", 3);
        x.set(3, 0, 9);
        x.set(2, 0, 9);
        Due.law(x, 1, "over 1000;", 1);
        Due.due("without slips, gusts, over", x.would(0), 640);
        x.set(0, 0, -1);
        Due.law(x, 0, "dip 5;drag 1 when wind<0;", 2);
        Due.due("by the wind", x.would(0) < 640, true);
        Due.law(x, 0, Due.DIP, 1);
        Due.law(x, 1, "wear 500+thrown*500;", 1);
        Due.plan(x, 0, "throw 20 at 30 with 0;throw 25 at 30 with 0;throw 30 at 30 with 0;", 3);
        Due.due("his elbow: two throws", x.would(0), 640);
        Due.law(x, 1, "wear 1000 when best=4;", 1);
        Due.due("by the best as it would be", x.would(0), 640);
        Due.law(x, 1, "wear 1000 when round=0;", 1);
        Due.due("by the round as it would be", x.would(0), 459);
        Due.law(x, 1, "wear 1000 when thrown=1;", 1);
        Due.due("by thrown as it would be", x.would(0), 640);
        Due.law(x, 1, "wear 400 when wearing=0;wear 600;", 2);
        Due.due("by wearing as it would be", x.would(0), 640);
        Due.law(x, 1, "wear 1000 when pace=9 and force=25 and angle=30 and power=25;", 1);
        Due.plan(x, 1, "throw 20 at 30 with 0 pace 9;throw 25 at 40 with 0;", 2);
        int farther = x.fly(25, 40, 0, 0, 0, 0, 0);
        Due.due("by the throw as it would be", x.would(1), 640);
        Due.law(x, 1, "", 0);
        Due.due("else both", x.would(1), Math.max(640, farther));
    }

    private static void verdict() {
        PointFirst x = new PointFirst();
        Due.due("0", x.verdict(0), 1000000000L);
        Due.due("1", x.verdict(1), 999L * 999 * 999 + 3L * 999 * 999);
        Due.due("100", x.verdict(100), 972000000L);
        Due.due("500", x.verdict(500), 500000000L);
        Due.due("999", x.verdict(999), 1 + 3L * 999);
        Due.due("1000", x.verdict(1000), 0L);
        Due.due("1001", x.verdict(1001), -1L);
        Due.due("-1", x.verdict(-1), -1L);
    }

    private static void path() {
        PointFirst x = Due.ready();
        x.set(0, 0, -2);
        Due.law(x, 0, "dip 5;drag 1 when wind=0-2 and tick=2;drift side;", 3);
        x.throwIt(20, 30, 0, 0);
        x.set(0, 0, 0);
        x.set(1, 0, 1);
        int[][] want = {{0, 180, 0, 30}, {51, 200, 1, 25}, {102, 210, 3, 20}, {152, 210, 6, 15}, {202, 200, 10, 10}};
        for (int n = 0; n < 5; n++) {
            for (int k = 0; k < 4; k++) {
                Due.due("path " + n + " " + k, x.path(0, n, k), want[n][k]);
            }
        }
        int[] end = {452, 0, 45, -15};
        for (int k = 0; k < 4; k++) {
            Due.due("landed " + k, x.path(0, 9, k), end[k]);
            Due.due("behind that " + k, x.path(0, 400, k), end[k]);
        }
        int[][] bad = {{1, 0, 0}, {-1, 0, 0}, {0, -1, 0}, {0, 401, 0}, {0, 0, 4}, {0, 0, -1}};
        for (int[] b : bad) {
            Due.due("path refused", x.path(b[0], b[1], b[2]), -10000);
        }
    }

    private static void needed() {
        PointFirst x = Due.ready();
        Due.due("459", x.needed(30, 0, 0, 459), 20);
        Due.due("more", x.needed(30, 0, 0, 460) > 20, true);
        Due.due("mark 0 by force 0", x.needed(0, 0, 0, 0), 0);
        Due.due("below 0", x.needed(0, 0, 0, -1), 0);
        Due.due("force 0 lands tail first by 30", x.needed(40, 0, 0, 0) > 0, true);
        int most = x.fly(99, 60, 0, 0, 29, 0, 0);
        Due.due("the most", x.needed(60, 0, 29, most), 99);
        Due.due("no more", x.needed(60, 0, 29, most + 1), -1);
        Due.law(x, 0, "dip 5;drag 1 when wind=29;drag 1 when side=20;", 3);
        Due.due("wind", x.needed(30, 0, 29, 459) > 20, true);
        x.set(1, 0, 20);
        Due.due("side as now", x.needed(30, 0, 0, 459) > 20, true);
        int[][] bad = {{-1, 0, 0, 0}, {61, 0, 0, 0}, {0, 1, 0, 0}, {0, -1, 0, 0}, {0, 0, 30, 0}, {0, 0, -30, 0}};
        for (int[] b : bad) {
            Due.due("needed refused", x.needed(b[0], b[1], b[2], b[3]), -1);
        }
    }

    private static void rests() {
        PointFirst x = Due.ready();
        Due.due("rested", x.rests(0, 0), 0);
        x.set(6, 0, 500);
        Due.due("as much is enough", x.rests(0, 500), 0);
        Due.due("without mending never", x.rests(0, 499), -1);
        Due.law(x, 1, "mend 1;", 1);
        Due.due("four hundred days", x.rests(0, 100), 400);
        Due.due("not by then", x.rests(0, 99), -1);
        Due.law(x, 1, "mend wearing/2+force+pace+angle;", 1);
        Due.due("250 125 63", x.rests(0, 63), 3);
        Due.due("62", x.rests(0, 62), 4);
        Due.law(x, 1, "mend 200;", 1);
        Due.due("0 at least", x.rests(0, 0), 3);
        Due.due("as days go", x.days(3) ? x.of(0, 1) : -1, 0);
        x.throwIt(20, 30, 0, 0);
        x.set(6, 0, 500);
        Due.law(x, 1, "mend thrown*50+best*5+round*30+power-99;", 1);
        Due.due("50 and 20 and 30", x.rests(0, 0), 5);
        int[][] bad = {{1, 0}, {-1, 0}, {0, -1}, {0, 1001}};
        for (int[] b : bad) {
            Due.due("rests refused", x.rests(b[0], b[1]), -1);
        }
        Due.due("1000", x.rests(0, 1000), 0);
    }

    private static void nothingStays() {
        PointFirst x = Due.ready();
        x.set(3, 0, 3);
        x.set(2, 0, 3);
        x.state(9);
        Due.law(x, 1, "wear 100;over 500;mend 5;", 3);
        Due.law(x, 3, "gain 1;cost 1;", 2);
        Due.plan(x, 0, "throw 20 at 30 with 0;", 1);
        x.throwIt(20, 30, 0, 0);
        x.gust(3);
        int[] was = all(x);
        x.fly(20, 30, 3, 0, 3, 3, 0);
        x.angle(20, 0, 3, 2);
        x.right(20, 0);
        x.winds(20, 30, 0, 400, 9);
        x.still(0);
        x.holds(0, 20, 30);
        x.chance(0, 300, 3, 30, 0, 0);
        x.waitFor(20, 30, 0, 0);
        x.leastForce(0, 0, 300, 0);
        x.better(20, 30, 0, 0);
        x.span(0, 0);
        x.train(0, 3, 500, 0);
        x.would(0);
        x.verdict(3);
        x.path(0, 3, 0);
        x.needed(30, 0, 0, 300);
        x.rests(0, 0);
        int[] now = all(x);
        for (int k = 0; k < now.length; k++) {
            Due.due("as it was " + k, now[k], was[k]);
        }
    }

    private static int[] all(PointFirst x) {
        int[] all = new int[33];
        for (int k = 0; k < 25; k++) {
            all[k] = x.look(k);
        }
        for (int k = 0; k < 8; k++) {
            all[25 + k] = x.of(0, k);
        }
        return all;
    }
}
