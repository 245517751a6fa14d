/** Terms, 4, and promises 19 to 24, 26 to 30, 32, 33, 37 and 38: each boundary of what is thought. */
final class EdgeThoughtTest {
    private EdgeThoughtTest() {
    }

    public static void main(String[] args) {
        angle();
        angleTies();
        safe();
        safeIsTheGreatestLeast();
        right();
        winds();
        still();
        span();
        holds();
        holdsAsked();
        chanceByMark();
        chanceByThrows();
        chanceByWear();
        chanceTies();
        waitFor();
        leastForce();
        leastForceAngle();
        needed();
        better();
        trainHeld();
        trainWeeks();
        trainTies();
        trainByEachWear();
        would();
        wouldByRounds();
        wouldAsked();
        verdict();
        rests();
        Due.finish();
    }

    /** How far a force comes by an angle where no law but a dip and a drift is. */
    private static int far(int force, int a) {
        int up = 3 * force * s(a) / 1000;
        int fore = 3 * force * s(90 - a) / 1000;
        int height = 180;
        int far = 0;
        while (height > 0) {
            up -= 10;
            height += up;
            far += fore;
        }
        return far;
    }

    private static int s(int a) {
        int arc = a * (180 - a);
        return 4000 * arc / (40500 - arc);
    }

    /** By force 50 each angle is GOOD but those that are told: these come out of the SECTOR. */
    private static PointFirst but(String angles) {
        PointFirst x = Due.ready();
        x.set(4, 0, 20);
        Due.law(x, 0, "dip 9;drift 9 when tick=0 and (" + angles + ");", 2);
        return x;
    }

    private static void angle() {
        String[] buts = {"pitch<60", "pitch>0", "pitch<61", "pitch=61", "pitch>59", "pitch<59", "pitch<30 or pitch>31"};
        int best = 0;
        for (int a = 0; a <= 60; a++) {
            best = far(50, a) > far(50, best) ? a : best;
        }
        int best60 = 59;
        int best30 = far(50, 30) >= far(50, 31) ? 30 : 31;
        int[] want = {60, 0, -1, best, best, far(50, 59) >= far(50, 60) ? 59 : 60, best30};
        for (int k = 0; k < buts.length; k++) {
            PointFirst x = but(buts[k]);
            Due.due("ANGLE but " + buts[k], x.angle(50, 0, 0, 0), want[k]);
            Due.due("its far but " + buts[k], x.angle(50, 0, 0, 1), want[k] < 0 ? -1 : far(50, want[k]));
        }
        Due.due("in between", best > 9 && best < best60, true);
        PointFirst x = Due.ready();
        Due.law(x, 0, "dip 9;drag 1 when wind=29;drag 2 when wind=0-29;drag 3 when side=20;drag 4 when side=0-20;", 5);
        int still = x.angle(50, 0, 0, 1);
        int last = still;
        for (int wind : new int[] {29, -29}) {
            Due.due("wind " + wind, x.angle(50, 0, wind, 1) < last, true);
            last = x.angle(50, 0, wind, 1);
        }
        x.set(1, 0, 20);
        int side = x.angle(50, 0, 0, 1);
        Due.due("SIDE as now", side < still, true);
        x.set(1, 0, -20);
        Due.due("SIDE as now, too", x.angle(50, 0, 0, 1) < side, true);
        x.set(1, 0, 0);
        x.set(0, 0, 20);
        Due.due("WIND is not asked", x.angle(50, 0, 0, 1), still);
        for (int force : new int[] {0, 99}) {
            Due.due("force " + force, x.angle(force, 0, 0, 0) >= 0, true);
        }
    }

    /** By force 0 all come 0 far: of several the least. */
    private static void angleTies() {
        PointFirst x = but("pitch<7");
        Due.due("0 far: the least that is GOOD", x.angle(0, 0, 0, 0), 7);
        Due.due("its far", x.angle(0, 0, 0, 1), 0);
        Due.due("SAFE without slips", x.angle(0, 0, 0, 2), 7);
        Due.due("its least", x.angle(0, 0, 0, 3), 0);
        x.set(3, 0, 2);
        Due.due("SAFE by two", x.angle(0, 0, 0, 2), 9);
        Due.due("ANGLE asks no slips", x.angle(0, 0, 0, 0), 7);
        x.set(3, 0, 9);
        Due.due("SAFE by nine", x.angle(0, 0, 0, 2), 16);
        PointFirst y = but("pitch=100");
        y.set(3, 0, 9);
        Due.due("0 is safe where it is held to 0", y.angle(0, 0, 0, 2), 0);
        y = but("pitch=0");
        for (int slip = 0; slip <= 9; slip++) {
            y.set(3, 0, slip);
            Due.due("held to 0, which is not GOOD, by slip " + slip, y.angle(0, 0, 0, 2), slip + 1);
        }
    }

    private static void safe() {
        String[] buts = {"pitch<51", "pitch<52", "pitch>9", "pitch>8", "pitch=69", "pitch=0", "pitch=9 or pitch=28",
            "pitch=9 or pitch=29"};
        int[] least = {60, -1, 0, -1, 0, 10, 38, 0};
        int[] most = {60, -1, 0, -1, 59, 60, 60, 60};
        for (int k = 0; k < buts.length; k++) {
            PointFirst x = but(buts[k]);
            x.set(3, 0, 9);
            int at = x.angle(50, 0, 0, 2);
            if (least[k] == most[k]) {
                Due.due("SAFE but " + buts[k], at, least[k]);
            } else {
                Due.due("SAFE but " + buts[k] + " is one of them", at >= least[k] && at <= most[k], true);
            }
            Due.due("its least but " + buts[k], x.angle(50, 0, 0, 3), at < 0 ? -1 : leastAround(at, 9));
        }
        // of 10 .. 27 there are 18: too few for 19; from 10 to 28 there are 19, and 19 is in their midst
        PointFirst x = but("pitch<10 or pitch>27");
        x.set(3, 0, 9);
        Due.due("18 angles", x.angle(50, 0, 0, 2), -1);
        Due.due("their far", x.angle(50, 0, 0, 3), -1);
        x = but("pitch<10 or pitch>28");
        x.set(3, 0, 9);
        Due.due("19 angles", x.angle(50, 0, 0, 2), 19);
        Due.due("the least of them", x.angle(50, 0, 0, 3), far(50, 10));
        x.set(3, 0, 8);
        Due.due("by eight", x.angle(50, 0, 0, 2), 20);
        x.set(3, 0, 0);
        Due.due("without slips as ANGLE", x.angle(50, 0, 0, 2), x.angle(50, 0, 0, 0));
        Due.due("and as far", x.angle(50, 0, 0, 3), x.angle(50, 0, 0, 1));
    }

    private static int leastAround(int a, int slip) {
        int least = Integer.MAX_VALUE;
        for (int s = -slip; s <= slip; s++) {
            least = Math.min(least, far(50, Math.max(0, a + s)));
        }
        return least;
    }

    private static void safeIsTheGreatestLeast() {
        PointFirst x = but("pitch=100");
        for (int slip = 0; slip <= 9; slip++) {
            x.set(3, 0, slip);
            int best = -1;
            int at = -1;
            for (int a = 0; a <= 60; a++) {
                if (leastAround(a, slip) > best) {
                    best = leastAround(a, slip);
                    at = a;
                }
            }
            Due.due("SAFE by slip " + slip, x.angle(50, 0, 0, 2), at);
            Due.due("its least by slip " + slip, x.angle(50, 0, 0, 3), best);
            Due.due("ANGLE asks no slips", far(50, x.angle(50, 0, 0, 0)), x.angle(50, 0, 0, 1));
            Due.due("nor its far by slip " + slip, x.angle(50, 0, 0, 1) >= best + slip, true);
        }
    }

    private static void right() {
        PointFirst x = new PointFirst();
        Due.due("without spears", x.right(50, 0), -1);
        for (int k = 0; k < 6; k++) {
            x.spear(k == 5 ? 9 : 0, k);
        }
        Due.due("none GOOD", x.right(50, 0), -1);
        Due.law(x, 0, "dip 9;", 1);
        Due.due("all alike: the first", x.right(50, 0), 0);
        Due.law(x, 0, "dip 9;drag 1 when soft=0;", 2);
        Due.due("the last one", x.right(50, 0), 5);
        Due.law(x, 0, "dip 9;drag 1 when tip=0 or tip>2;", 2);
        Due.due("of two the first", x.right(50, 0), 1);
        Due.law(x, 0, "dip 9 when soft=9;", 1);
        Due.due("the only GOOD one", x.right(50, 0), 5);
        Due.law(x, 0, "dip 9;drag 1 when tip=0 and wind=29;drag 1 when tip<2 and wind=0-29;", 3);
        Due.due("wind 29", x.right(50, 29), 1);
        Due.due("wind -29", x.right(50, -29), 2);
        Due.due("force 0: all 0 far", x.right(0, 29), 0);
        Due.due("force 99", x.right(99, 29), 1);
        // each by its own angle: what drags more at 0 flies farther by another
        Due.law(x, 0, "dip 9;drag 50 when tip=0 and pitch=0 and tick=0;drag 1 when tip>0;", 3);
        Due.due("by its own angle", x.right(50, 0), 0);
    }

    /** By force 20 and angle 0 a wind w comes 340 less w far. */
    private static PointFirst blown() {
        PointFirst x = Due.ready();
        Due.law(x, 0, "dip 5;drag wind+20 when tick=5;", 2);
        return x;
    }

    private static void winds() {
        PointFirst x = blown();
        for (int w = -20; w <= 20; w++) {
            Due.due("the wind " + w + " alone", x.winds(20, 0, 0, 340 - w, 0), 1L << (w + 20));
        }
        long all = (1L << 41) - 1;
        Due.due("one more than the farthest", x.winds(20, 0, 0, 361, 0), 0);
        Due.due("but up to 1", x.winds(20, 0, 0, 361, 1), 1);
        Due.due("one less than the least", x.winds(20, 0, 0, 319, 0), 0);
        Due.due("up to 1 there", x.winds(20, 0, 0, 319, 1), 1L << 40);
        Due.due("three winds", x.winds(20, 0, 0, 340, 1), 7L << 19);
        Due.due("up to 19", x.winds(20, 0, 0, 340, 19), all & ~1L & ~(1L << 40));
        Due.due("up to 20", x.winds(20, 0, 0, 340, 20), all);
        Due.due("up to 999", x.winds(20, 0, 0, 340, 999), all);
        Due.due("1359 is 999 more than 360", x.winds(20, 0, 0, 1359, 999), 1);
        Due.due("1360 is not", x.winds(20, 0, 0, 1360, 999), 0);
        Due.due("-679 is 999 less than 320", x.winds(20, 0, 0, -679, 999), 1L << 40);
        Due.due("-680 is not", x.winds(20, 0, 0, -680, 999), 0);
        Due.due("all ints", x.winds(20, 0, 0, Integer.MIN_VALUE, 999) + x.winds(20, 0, 0, Integer.MAX_VALUE, 999), 0);
        x.set(0, 0, 9);
        Due.due("WIND is not asked", x.winds(20, 0, 0, 340, 0), 1L << 20);
        for (int[] fa : new int[][] {{0, 0}, {99, 0}, {20, 60}, {99, 60}}) {
            int far = x.fly(fa[0], fa[1], 0, 0, 7, 0, 0);
            Due.due("force " + fa[0] + ", angle " + fa[1], x.winds(fa[0], fa[1], 0, far, 0) >> 27 & 1, 1);
        }
        Due.law(x, 0, "drag wind+20 when tick=5;", 1);
        Due.due("GOOD or not", x.winds(20, 0, 0, 340, 0), 1L << 20);
        Due.law(x, 0, "drag wind+side+20 when tick=5;", 1);
        x.set(1, 0, 5);
        Due.due("SIDE as now", x.winds(20, 0, 0, 340, 0), 1L << 15);
    }

    private static void still() {
        PointFirst x = blown();
        Due.due("no line yet", x.still(0), -1);
        for (int w : new int[] {-20, 0, 20}) {
            x.set(0, 0, w);
            x.throwIt(20, 0, 0, 0);
        }
        for (int i = 0; i < 3; i++) {
            Due.due("came " + i, x.book(i, 7), 360 - 20 * i);
            Due.due("still " + i, x.still(i), 340);
        }
        Due.due("line 3", x.still(3), -1);
        Due.due("line -1", x.still(-1), -1);
        Due.law(x, 0, "drag wind+side+20 when tick=5;", 1);
        x.set(1, 0, -20);
        Due.due("SIDE as now, not GOOD", x.still(0), 360);
        x.set(2, 0, 9);
        x.throwIt(20, 0, 0, 0);
        Due.due("without the gust too", x.still(3), 360);
        x.undo();
        Due.due("the line undone", x.still(3), -1);
    }

    private static void span() {
        PointFirst x = blown();
        Due.due("no line yet", x.span(0, 0), -1);
        x.set(0, 0, 20);
        x.throwIt(20, 0, 0, 0);
        Due.due("by wind 0: the least", x.span(0, 0), 340);
        Due.due("by wind 0: the greatest", x.span(0, 1), 340);
        Due.law(x, 0, "drag 50 when pitch=9 and tick=0;", 1);
        int[] slips = {0, 1, 8, 9};
        for (int slip : slips) {
            x.set(3, 0, slip);
            int least = far(20, 0);
            int most = far(20, 0);
            for (int a = 0; a <= Math.min(8, slip); a++) {
                least = Math.min(least, far(20, a));
                most = Math.max(most, far(20, a));
            }
            if (slip == 9) {
                least = x.fly(20, 9, 0, 0, 0, 0, 0);
            }
            Due.due("least by slip " + slip, x.span(0, 0), least);
            Due.due("greatest by slip " + slip, x.span(0, 1), most);
        }
        Due.due("9 comes least", x.span(0, 0) < far(20, 0), true);
        // a line of angle 69, by a slip of 9 up to 78 and down to 60
        PointFirst y = Due.ready();
        y.set(3, 0, 9);
        for (int state = 0; y.look(5) == 0 || y.book(y.look(5) - 1, 5) < 69; state++) {
            if (y.look(2) == 6) {
                y.meet();
            }
            y.state(state);
            y.throwIt(50, 60, 0, 0);
        }
        int line = y.look(5) - 1;
        Due.due("up to 78", y.span(line, 0), far(50, 78));
        Due.due("down to 60", y.span(line, 1), far(50, 60));
        y.set(3, 0, 8);
        Due.due("up to 77", y.span(line, 0), far(50, 77));
        Due.due("down to 61", y.span(line, 1), far(50, 61));
        Due.law(y, 0, "dip 0-9;drag 1 when side=3;", 2);
        Due.due("GOOD or not", y.span(line, 1), far(50, 61));
        y.set(1, 0, 3);
        Due.due("SIDE as now", y.span(line, 1) < far(50, 61), true);
    }

    private static void holds() {
        PointFirst x = Due.ready();
        int[] wears = {0, 1, 16, 17, 20, 100, 333, 334, 500, 999, 1000, 1001};
        int[] has = {0, 1, 40, 500, 980, 999, 1000};
        for (int wear : wears) {
            Due.law(x, 1, "wear " + wear + ";", 1);
            for (int had : has) {
                x.set(6, 0, had);
                int w = Math.min(1000, wear);
                int want = had == 1000 ? 0 : w == 0 ? 60 : Math.min(60, (1000 - had + w - 1) / w);
                Due.due("WEAR " + had + ", " + wear + " each", x.holds(0, 50, 30), want);
            }
        }
        Due.law(x, 1, "wear 0-5;", 1);
        x.set(6, 0, 999);
        Due.due("never gone", x.holds(0, 50, 30), 60);
        int[][] ends = {{0, 0}, {99, 0}, {0, 60}, {99, 60}};
        Due.law(x, 1, "wear force+angle*3;", 1);
        x.set(6, 0, 0);
        int[] want = {60, 11, 6, 4};
        for (int k = 0; k < 4; k++) {
            Due.due("force " + ends[k][0] + ", angle " + ends[k][1], x.holds(0, ends[k][0], ends[k][1]), want[k]);
        }
        Due.law(x, 1, "wear force;", 1);
        x.set(5, 0, 50);
        Due.due("50 each", x.holds(0, 50, 0), 20);
        Due.due("POWER at most", x.holds(0, 51, 0), 20);
        Due.due("49 each", x.holds(0, 49, 0), 21);
        x.set(5, 0, 0);
        Due.due("POWER 0", x.holds(0, 99, 0), 60);
    }

    private static void holdsAsked() {
        PointFirst x = Due.ready();
        x.throwIt(20, 30, 0, 0);
        x.throwIt(20, 30, 0, 0);
        String[] asked = {"pace=0", "angle=33", "force=44", "power=99", "best=4", "round=2"};
        for (String so : asked) {
            Due.law(x, 1, "wear 500 when " + so + ";", 1);
            Due.due("all by " + so, x.holds(0, 44, 33), 2);
        }
        Due.law(x, 1, "wear 1000 when thrown=7;wear 1;", 2);
        Due.due("2 .. 7 thrown", x.holds(0, 44, 33), 6);
        Due.law(x, 1, "wear 1000 when wearing=500;wear 100;", 2);
        Due.due("0 .. 500 worn", x.holds(0, 44, 33), 6);
        Due.law(x, 1, "wear 1000 when thrown<2;", 1);
        Due.due("as many are thrown already", x.holds(0, 44, 33), 60);
        Due.law(x, 1, "wear 1000 when thrown=61;", 1);
        Due.due("the sixtieth", x.holds(0, 44, 33), 60);
    }

    /** By angle 0 a force comes 18 times as far. */
    private static void chanceByMark() {
        PointFirst x = Due.ready();
        for (int force = 54; force <= 99; force += 5) {
            int then = force == 99 ? 0 : force + 5;
            Due.due("just as far by " + force, x.chance(0, 18 * force, 1, 0, 0, 1), force);
            Due.due("surely", x.chance(0, 18 * force, 1, 0, 0, 0), 1000000);
            Due.due("one cm more than by " + force, x.chance(0, 18 * force + 1, 1, 0, 0, 1), then);
            Due.due("surely or not", x.chance(0, 18 * force + 1, 1, 0, 0, 0), then > 0 ? 1000000 : 0);
        }
        for (int mark : new int[] {0, -1, Integer.MIN_VALUE}) {
            Due.due("the mark " + mark, x.chance(0, mark, 1, 0, 0, 1), 54);
        }
        Due.due("the greatest mark", x.chance(0, Integer.MAX_VALUE, 6, 0, 0, 0), 0);
        x.set(4, 0, 20);
        Due.law(x, 0, "dip 9;drift 9 when tick=0 and fore<180;", 2);
        Due.due("the least that is GOOD", x.chance(0, 0, 1, 0, 0, 1), 64);
        Due.law(x, 0, "dip 9;drag 9 when wind>0;", 2);
        x.set(0, 0, 1);
        Due.due("WIND as now", x.chance(0, 18 * 54, 1, 0, 0, 1) > 54, true);
        x.spear(9, 9);
        Due.law(x, 0, "dip 9;drag 9 when tip=0;", 2);
        Due.due("by the other SPEAR", x.chance(0, 18 * 54, 1, 0, 1, 1), 54);
        Due.due("by that angle", x.chance(0, far(54, 60), 1, 60, 1, 1), 54);
        Due.due("no farther", x.chance(0, far(54, 60) + 1, 1, 60, 1, 1), 59);
    }

    private static void chanceByThrows() {
        PointFirst x = Due.ready();
        int[] overs = {1, 333, 500, 900, 999, 1000, 1001};
        for (int over : overs) {
            Due.law(x, 1, "over " + over + ";", 1);
            long has = 0;
            for (int r = 0; r <= 6; r++) {
                Due.due("over " + over + ", " + r + " throws", x.chance(0, 0, r, 0, 0, 0), has);
                Due.due("by which", x.chance(0, 0, r, 0, 0, 1), has > 0 ? 54 : 0);
                long sure = 1000000 - 1000 * Math.min(1000, over);
                has = sure + (1000000 - sure) * has / 1000000;
            }
        }
        Due.law(x, 1, "over 0-9;", 1);
        Due.due("over below 0", x.chance(0, 0, 1, 0, 0, 0), 1000000);
        Due.law(x, 1, "over 1000 when thrown<3;over 250;", 2);
        Due.due("three in vain", x.chance(0, 0, 3, 0, 0, 0), 0);
        Due.due("the fourth may do", x.chance(0, 0, 4, 0, 0, 0), 750000);
        Due.due("none more is as good as one in vain", x.chance(0, 0, 3, 0, 0, 1), 0);
        x.pass();
        Due.law(x, 1, "", 0);
        x.throwIt(20, 30, 0, 0);
        Due.law(x, 1, "over 1000 when thrown<3;over 250;", 2);
        Due.due("one is thrown: the third may do", x.chance(0, 0, 3, 0, 0, 0), 750000);
        Due.law(x, 1, "over 100*round+10*best;", 1);
        Due.due("best 4, round 2 as now", x.chance(0, 0, 2, 0, 0, 0), 760000 + 240000 * 76 / 100);
    }

    private static void chanceByWear() {
        PointFirst x = Due.ready();
        String[] laws = {"over 500;wear 499;", "over 500;wear 500;", "over 500;wear 999;", "over 500;wear 1000;",
            "over 500;wear 9999;", "over 500;wear 0-9;"};
        int[] throwsLeft = {3, 2, 2, 1, 1, 6};
        for (int k = 0; k < laws.length; k++) {
            Due.law(x, 1, laws[k], 2);
            long has = 0;
            for (int n = 0; n < throwsLeft[k]; n++) {
                has = 500000 + 500000 * has / 1000000;
            }
            Due.due("six by " + laws[k], x.chance(0, 0, 6, 0, 0, 0), has);
        }
        Due.law(x, 1, "over 500;wear 1;", 2);
        x.set(6, 0, 998);
        Due.due("998: two", x.chance(0, 0, 6, 0, 0, 0), 750000);
        x.set(6, 0, 999);
        Due.due("999: one", x.chance(0, 0, 6, 0, 0, 0), 500000);
        x.set(6, 0, 1000);
        Due.due("1000: none", x.chance(0, 0, 6, 0, 0, 0), 0);
        Due.due("none more", x.chance(0, 0, 6, 0, 0, 1), 0);
        x.set(6, 0, 0);
        Due.law(x, 1, "over wearing;wear 300;", 2);
        Due.due("not worn: surely", x.chance(0, 0, 1, 0, 0, 0), 1000000);
        x.set(6, 0, 100);
        Due.due("by WEAR as it would be: 100 400 700", x.chance(0, 0, 6, 0, 0, 0),
                900000 + 100000 * (600000 + 400000L * 300000 / 1000000) / 1000000);
        Due.law(x, 1, "over pace*500+angle*10+power;", 1);
        Due.due("pace 0, angle, POWER", x.chance(0, 0, 1, 30, 0, 0), 1000000 - 399000);
    }

    /** Of several the first: none more first, then 54. */
    private static void chanceTies() {
        PointFirst x = Due.ready();
        Due.law(x, 1, "over 1000;", 1);
        Due.due("all 0: none more", x.chance(0, 0, 6, 0, 0, 1), 0);
        Due.law(x, 1, "over 300 when force=64 or force=89;over 400;", 2);
        Due.due("64 as good as 89", x.chance(0, 0, 1, 0, 0, 1), 64);
        Due.due("89 where 64 is too weak", x.chance(0, 18 * 65, 1, 0, 0, 1), 89);
        Due.law(x, 1, "over 999;wear 1000 when force<99;", 2);
        Due.due("99 may go on", x.chance(0, 0, 2, 0, 0, 1), 99);
        Due.due("alone it is as good as 54", x.chance(0, 0, 1, 0, 0, 1), 54);
        x.set(5, 0, 98);
        Due.due("99 is above POWER", x.chance(0, 0, 2, 0, 0, 1), 54);
        x.set(5, 0, 53);
        Due.due("all are", x.chance(0, 0, 2, 0, 0, 1), 0);
        x.set(5, 0, 54);
        Due.law(x, 1, "over 500;", 1);
        Due.due("54 and 54 again", x.chance(0, 0, 2, 0, 0, 0), 750000);
        x.set(5, 0, 58);
        Due.due("59 is above 58 in each throw", x.chance(0, 18 * 59, 6, 0, 0, 0), 0);
        x.set(5, 0, 99);
        Due.law(x, 1, "over 1000 when thrown=0;over 500;", 2);
        Due.due("one in vain, by the first that there is", x.chance(0, 18 * 60, 2, 0, 0, 1), 54);
        Due.due("then half", x.chance(0, 18 * 60, 2, 0, 0, 0), 500000);
        Due.law(x, 1, "over 1001 when thrown=0;over 500;", 2);
        Due.due("over is 1000 at most", x.chance(0, 0, 2, 0, 0, 0), 500000);
        Due.law(x, 1, "over 1000 when thrown<2;wear 0 when thrown=0;wear 1000 when force>53;", 3);
        Due.due("there is no softer one than 54", x.chance(0, 0, 3, 0, 0, 0), 0);
    }

    /** By force 20 and angle 0 a wind w comes 331 less w far. */
    private static void waitFor() {
        PointFirst x = Due.ready();
        Due.law(x, 0, "dip 5;drag wind+29 when tick=5;", 2);
        Due.due("no gusts", x.waitFor(20, 0, 0, 0), -1);
        for (int n = 1; n <= 59; n++) {
            x.gust(5);
        }
        Due.due("the first of all", x.waitFor(20, 0, 0, 0), 0);
        x.gust(4);
        Due.due("the sixtieth", x.waitFor(20, 0, 0, 0), 59);
        Due.due("its far", x.waitFor(20, 0, 0, 1), 360 - 33);
        Due.due("no sixty-first", x.gust(3), -1);
        Due.due("so it stays", x.waitFor(20, 0, 0, 0), 59);
        x.gust(-100);
        Due.due("none then", x.waitFor(20, 0, 0, 0), -1);
        Due.due("no far then", x.waitFor(20, 0, 0, 1), -1);
        x.gust(29);
        Due.due("29", x.waitFor(20, 0, 0, 1), 360 - 50);
        x.gust(-29);
        Due.due("-29", x.waitFor(20, 0, 0, 1), 360);
        Due.due("in its second", x.waitFor(20, 0, 0, 0), 1);
        x.gust(-29);
        Due.due("of several the first", x.waitFor(20, 0, 0, 0), 1);
        Due.law(x, 0, "dip 5 when wind>0;drag wind+29 when tick=5;", 2);
        Due.due("the only GOOD one", x.waitFor(20, 0, 0, 0), 0);
        Due.law(x, 0, "dip 5;drift side;", 2);
        Due.due("0 far, GOOD", x.waitFor(0, 0, 0, 0), 0);
        Due.due("that far", x.waitFor(0, 0, 0, 1), 0);
        x.set(1, 0, 9);
        Due.due("SIDE as now", x.waitFor(20, 0, 0, 0), -1);
        x.set(1, 0, 0);
        Due.due("99 by 60", x.waitFor(99, 60, 0, 1), far(99, 60));
        x.set(0, 0, 20);
        Due.law(x, 0, "dip 5;drag wind;", 2);
        Due.due("WIND is not asked", x.waitFor(20, 0, 0, 1), 360);
    }

    /** Angle 0 alone is GOOD: 18 times the force. */
    private static void leastForce() {
        PointFirst x = Due.ready();
        Due.law(x, 0, "dip 1 when tick=0;", 1);
        for (int force = 1; force <= 99; force += 7) {
            Due.due("so far by " + force, x.leastForce(0, 0, 18 * force, 0), force);
            Due.due("by angle 0", x.leastForce(0, 0, 18 * force, 1), 0);
            Due.due("one less", x.leastForce(0, 0, 18 * force - 1, 0), force);
            Due.due("one more", x.leastForce(0, 0, 18 * force + 1, 0), force == 99 ? -1 : force + 1);
        }
        Due.due("99 is the greatest", x.leastForce(0, 0, 1783, 0), -1);
        Due.due("no angle then", x.leastForce(0, 0, 1783, 1), -1);
        for (int mark : new int[] {0, -1, Integer.MIN_VALUE}) {
            Due.due("force 0 for " + mark, x.leastForce(0, 0, mark, 0), 0);
        }
        Due.due("the greatest mark", x.leastForce(0, 0, Integer.MAX_VALUE, 0), -1);
        Due.law(x, 0, "dip 1 when tick=0;drag 1 when wind=29 and tick=5;drag 2 when wind=0-29 and tick=5;", 3);
        Due.due("wind 29", x.leastForce(0, 29, 180, 0), 11);
        Due.due("wind 29, one less", x.leastForce(0, 29, 179, 0), 10);
        Due.due("wind -29", x.leastForce(0, -29, 179, 0), 11);
    }

    private static void leastForceAngle() {
        PointFirst x = but("pitch<60");
        Due.due("60 alone", x.leastForce(0, 0, 1000, 1), 60);
        int force = x.leastForce(0, 0, 1000, 0);
        Due.due("so far", far(force, 60) >= 1000, true);
        Due.due("not by less", far(force - 1, 60) < 1000, true);
        Due.law(x, 0, "dip 9;drift 9 when tick=0 and pitch<61;drift 9 when tick=1 and pitch<52;", 3);
        Due.due("61 would be GOOD", x.fly(50, 61, 0, 0, 0, 0, 5), 1);
        Due.due("but is not asked", x.leastForce(0, 0, 0, 0), -1);
        Due.due("nor its angle", x.leastForce(0, 0, 0, 1), -1);
        x = but("pitch=100");
        for (int mark = 100; mark < 2000; mark += 300) {
            int f = 0;
            int a = 0;
            while (far(f, a) < mark) {
                f = a == 60 ? f + 1 : f;
                a = a == 60 ? 0 : a + 1;
            }
            Due.due("the least force for " + mark, x.leastForce(0, 0, mark, 0), f);
            Due.due("its least angle", x.leastForce(0, 0, mark, 1), a);
        }
    }

    private static void needed() {
        PointFirst x = Due.ready();
        for (int force = 1; force <= 99; force += 7) {
            Due.due("so far by " + force, x.needed(0, 0, 0, 18 * force), force);
            Due.due("one less", x.needed(0, 0, 0, 18 * force - 1), force);
            Due.due("one more", x.needed(0, 0, 0, 18 * force + 1), force == 99 ? -1 : force + 1);
        }
        for (int mark : new int[] {0, -1, Integer.MIN_VALUE}) {
            Due.due("force 0 for " + mark, x.needed(0, 0, 0, mark), 0);
        }
        Due.due("the greatest mark", x.needed(0, 0, 0, Integer.MAX_VALUE), -1);
        Due.due("99 by 60", x.needed(60, 0, 0, far(99, 60)), 99);
        Due.due("no more than that", x.needed(60, 0, 0, far(99, 60) + 1), -1);
        x.set(4, 0, 20);
        Due.law(x, 0, "dip 9;drift 9 when tick=0 and fore<180;", 2);
        Due.due("the least that is GOOD", x.needed(0, 0, 0, 0), 60);
        Due.law(x, 0, "dip 9;drag 1 when wind=29 and tick=5;drag 2 when wind=0-29 and tick=5;", 3);
        Due.due("wind 29", x.needed(0, 0, 29, 179), 10);
        Due.due("wind -29", x.needed(0, 0, -29, 179), 11);
        Due.law(x, 0, "dip 9;drag 1 when side=20 and tick=5;", 2);
        Due.due("SIDE 0", x.needed(0, 0, 0, 180), 10);
        x.set(1, 0, 20);
        Due.due("SIDE as now", x.needed(0, 0, 0, 180), 11);
    }

    private static void better() {
        PointFirst x = new PointFirst();
        x.spear(0, 0);
        x.spear(0, 1);
        long all = (1L << 41) - 1;
        for (int w : new int[] {-20, -1, 0, 19, 20}) {
            String so = w < 0 ? "wind+" + -w + "=0" : "wind=" + w;
            Due.law(x, 0, "dip 5;drag 1 when tip=1 and tick=5 and " + so + ";", 2);
            Due.due("one cm less at " + w, x.better(20, 0, 0, 1), 1L << (w + 20));
            Due.due("the other is never better", x.better(20, 0, 1, 0), 0);
            Due.law(x, 0, "dip 5 when not (tip=1 and " + so + ");", 1);
            Due.due("the other is not GOOD at " + w, x.better(20, 0, 0, 1), 1L << (w + 20));
            Due.due("nor better", x.better(20, 0, 1, 0), 0);
        }
        Due.law(x, 0, "dip 5;", 1);
        Due.due("as far", x.better(20, 0, 0, 1), 0);
        Due.due("by itself", x.better(20, 0, 0, 0), 0);
        Due.law(x, 0, "dip 5 when tip=0;drag 9 when tip=0;", 2);
        Due.due("GOOD, though less far", x.better(20, 0, 0, 1), all);
        Due.due("farther, though not GOOD", x.better(20, 0, 1, 0), 0);
        Due.law(x, 0, "", 0);
        Due.due("neither is GOOD", x.better(20, 0, 0, 1), 0);
        Due.law(x, 0, "dip 5;drag 1 when tip=1;", 2);
        Due.due("by force 0 as far", x.better(0, 0, 0, 1), 0);
        Due.due("by 99 and 60", x.better(99, 60, 0, 1), all);
        Due.law(x, 0, "dip 5;drag 1 when tip=1 and side=7;", 2);
        Due.due("SIDE 0", x.better(20, 0, 0, 1), 0);
        x.set(1, 0, 7);
        Due.due("SIDE as now", x.better(20, 0, 0, 1), all);
    }

    private static void trainHeld() {
        PointFirst x = Due.ready();
        x.set(5, 0, 50);
        x.set(6, 0, 500);
        String[] gains = {"gain 8;", "gain 9;", "gain 10;", "gain 9999;", "gain 0;", "gain 0-1;", "gain 0-9999;"};
        int[] more = {8, 9, 9, 9, 0, 0, 0};
        for (int k = 0; k < gains.length; k++) {
            Due.law(x, 3, gains[k], 1);
            Due.due("POWER by " + gains[k], x.train(0, 1, 1000, 0), 50 + more[k]);
        }
        String[] costs = {"cost 199;", "cost 200;", "cost 201;", "cost 9999;", "cost 0-199;", "cost 0-200;", "cost 0-201;",
            "cost 0-9999;"};
        int[] wears = {699, 700, 700, 700, 301, 300, 300, 300};
        for (int k = 0; k < costs.length; k++) {
            Due.law(x, 3, costs[k], 1);
            Due.due("at most as much by " + costs[k], x.train(0, 1, wears[k], 0), 50);
            Due.due("above it by " + costs[k], x.train(0, 1, wears[k] - 1, 0), -1);
        }
        Due.law(x, 3, "cost 200;", 1);
        x.set(6, 0, 900);
        Due.due("WEAR is 1000 at most", x.train(0, 1, 1000, 0), 50);
        Due.due("not below that", x.train(0, 1, 999, 0), -1);
        Due.due("then too", x.train(0, 12, 1000, 0), 50);
        Due.law(x, 3, "cost 0-200;", 1);
        x.set(6, 0, 100);
        Due.due("0 at least", x.train(0, 1, 0, 0), 50);
        x.set(6, 0, 200);
        Due.due("200 less 200", x.train(0, 1, 0, 0), 50);
        x.set(6, 0, 201);
        Due.due("201 less 200", x.train(0, 1, 0, 0), -1);
        Due.due("above it behind the first WEEK", x.train(0, 2, 0, 0), -1);
        Due.due("now it may be above", x.train(0, 1, 1, 0), 50);
        int[] powers = {89, 90, 91, 99};
        Due.law(x, 3, "gain 9;cost 0-200;", 2);
        for (int power : powers) {
            x.set(5, 0, power);
            Due.due("99 at most from " + power, x.train(0, 1, 1000, 0), Math.min(99, power + 9));
        }
        x.set(5, 0, 0);
        Due.due("from 0", x.train(0, 1, 1000, 0), 9);
        Due.due("twelve WEEKS", x.train(0, 12, 1000, 0), 99);
        Due.due("eleven", x.train(0, 11, 1000, 0), 99);
        Due.due("ten", x.train(0, 10, 1000, 0), 90);
    }

    private static void trainWeeks() {
        PointFirst x = Due.ready();
        x.set(5, 0, 10);
        for (int week = 0; week < 12; week++) {
            Due.law(x, 3, "gain 5 when week=" + week + ";", 1);
            Due.due("up to the WEEK " + week, x.train(0, Math.max(1, week), 0, 0), week == 0 ? 15 : 10);
            Due.due("with the WEEK " + week, x.train(0, week + 1, 0, 0), 15);
        }
        Due.law(x, 3, "gain 5 when week=12;", 1);
        Due.due("there is no WEEK 12", x.train(0, 12, 0, 0), 10);
        for (int balls = 0; balls <= 4; balls++) {
            Due.law(x, 3, "gain 5 when balls=" + balls + ";", 1);
            Due.due("by hundreds " + balls, x.train(0, 1, 0, 0), balls <= 3 ? 15 : 10);
            Due.due("which", x.train(0, 1, 0, 1), balls <= 3 ? balls : 0);
        }
        Due.law(x, 3, "gain 5 when power=12;gain 2 when power=10;", 2);
        Due.due("POWER as it is then", x.train(0, 2, 0, 0), 17);
        Due.law(x, 3, "gain 5 when wearing=70;cost balls*35;", 2);
        Due.due("WEAR as it is then", x.train(0, 2, 1000, 0), 15);
        Due.due("two hundreds do", x.train(0, 2, 1000, 1), 2);
        Due.due("70 is not above 70", x.train(0, 2, 70, 1), 2);
        Due.due("but above 69", x.train(0, 3, 69, 0), 10);
    }

    private static void trainTies() {
        PointFirst x = Due.ready();
        x.set(5, 0, 10);
        Due.law(x, 3, "gain 3 when balls>1;", 1);
        Due.due("2 as good as 3", x.train(0, 1, 0, 1), 2);
        Due.due("3 more", x.train(0, 1, 0, 0), 13);
        Due.law(x, 3, "gain 3 when balls=1 or balls=3;", 1);
        Due.due("1 as good as 3", x.train(0, 1, 0, 1), 1);
        Due.law(x, 3, "gain balls;cost balls*50;", 2);
        Due.due("all that 100 can bear, at last", x.train(0, 2, 100, 1), 0);
        Due.due("two in two WEEKS", x.train(0, 2, 100, 0), 12);
        Due.due("all at once", x.train(0, 1, 100, 1), 2);
        x.set(5, 0, 99);
        Due.due("99 in any way", x.train(0, 12, 1000, 1), 0);
    }

    /** Every WEAR and every POWER holds what it is. */
    private static void trainByEachWear() {
        for (int from = 0; from <= 1000; from += 91) {
            PointFirst x = Due.ready();
            for (int wear = from; wear <= 1000 && wear < from + 91; wear++) {
                x.set(6, 0, wear);
                Due.due("WEAR " + wear, x.train(0, 2, wear, 0), 99);
                Due.due("not below " + wear, x.train(0, 2, wear - 1, 0), -1);
                Due.due("none thrown by WEAR " + wear, x.train(0, 2, wear, 1), 0);
            }
        }
        PointFirst x = Due.ready();
        for (int power = 0; power <= 99; power++) {
            x.set(5, 0, power);
            x.set(6, 0, power * 10);
            Due.due("POWER " + power, x.train(0, 12, 990, 0), power);
        }
        x.set(5, 0, 50);
        x.set(6, 0, 0);
        Due.law(x, 3, "gain 5 when wearing=0;cost 0-1;", 2);
        Due.due("WEAR 0 stays 0", x.train(0, 3, 1000, 0), 65);
        Due.law(x, 3, "cost 100-balls*100;", 1);
        Due.due("of several the least, though it wears more", x.train(0, 1, 1000, 1), 0);
        Due.due("but not above that WEAR", x.train(0, 1, 99, 1), 1);
        Due.law(x, 3, "gain 1 when wearing=200 or week=0;cost balls*100 when week=0;cost 0;", 3);
        Due.due("which of them led there", x.train(0, 2, 1000, 1), 2);
        Due.due("that far", x.train(0, 2, 1000, 0), 52);
    }

    private static void would() {
        PointFirst x = Due.ready();
        Due.due("no plan", x.would(0), 0);
        Due.plan(x, 0, "throw 10 at 0 with 0;throw 9 at 0 with 0;throw 11 at 0 with 0 below 2;throw 12 at 0 with 0 below 1;",
                4);
        Due.due("180, not less, 198 as below 2, not 12", x.would(0), 198);
        x.throwIt(30, 0, 0, 0);
        Due.due("his BEST is more", x.would(0), 540);
        x.meet();
        x.set(3, 0, 9);
        x.set(2, 0, 9);
        x.set(0, 0, 20);
        Due.law(x, 0, "dip 5;drag 1 when wind=20 and tick=5;", 2);
        Due.law(x, 1, "over 1000;", 1);
        Due.due("without slips, gusts, OVER, by WIND", x.would(0), 197);
        x.set(1, 0, 3);
        Due.law(x, 0, "dip 5;drag 1 when side=3 and tick=5;", 2);
        Due.due("by SIDE", x.would(0), 197);
        Due.law(x, 0, "dip 0;", 1);
        Due.due("not GOOD", x.would(0), 0);
        Due.law(x, 0, "dip 5;drift 9;", 2);
        Due.due("out of the SECTOR", x.would(0), 0);
        Due.law(x, 0, Due.DIP, 1);
        x.set(5, 0, 10);
        Due.due("POWER at most", x.would(0), 180);
        x.set(5, 0, 99);
        Due.plan(x, 0, "throw 95 at 0 with 0 pace 9;", 1);
        Due.due("99 and no more", x.would(0), 1782);
        Due.plan(x, 0, "throw 10 at 0 with 0 pace 9;pass;", 2);
        Due.due("with its pace", x.would(0), 19 * 18);
        x.set(6, 0, 999);
        Due.due("999", x.would(0), 19 * 18);
        x.set(6, 0, 1000);
        Due.due("1000: he passes", x.would(0), 0);
        PointFirst y = Due.ready();
        Due.law(y, 0, "dip 5;drag 14 when tick=5 and fore=69;", 2);
        Due.plan(y, 0, "throw 23 at 0 with 0;throw 40 at 0 with 0 below 4;throw 30 at 0 with 0 below 5;", 3);
        Due.due("400 is 4 metres", y.would(0), 540);
        Due.law(y, 0, "dip 5;drag 15 when tick=5 and fore=69;", 2);
        Due.due("399 is not", y.would(0), 720);
    }

    /** Of six rounds those that are left: his turn in this one may be still to come, or gone. */
    private static void wouldByRounds() {
        PointFirst x = Due.ready();
        x.thrower(99);
        x.thrower(99);
        for (int k = 0; k < 3; k++) {
            Due.plan(x, k, "throw 1 at 0 with 0;throw 2 at 0 with 0;throw 3 at 0 with 0;throw 4 at 0 with 0;"
                    + "throw 5 at 0 with 0;throw 6 at 0 with 0;throw 7 at 0 with 0;", 7);
        }
        for (int turn = 0; turn < 18; turn++) {
            for (int k = 0; k < 3; k++) {
                int left = 6 - turn / 3 - (k < turn % 3 ? 1 : 0);
                Due.due("turn " + turn + " of " + k, x.would(k), 18 * left);
            }
            x.pass();
        }
        for (int k = 0; k < 3; k++) {
            Due.due("over", x.would(k), 0);
        }
        x.meet();
        x.turnsGo(7);
        for (int k = 0; k < 3; k++) {
            Due.due("on from where his plan is", x.would(k), 18 * 6);
        }
        Due.due("what he has, he has", x.of(0, 2), 54);
        x.turnsGo(48);
        for (int k = 0; k < 3; k++) {
            Due.due("it came so", x.of(k, 2), x.would(k));
        }
        Due.due("seven of seven", x.of(0, 6), 1);
    }

    private static void wouldAsked() {
        PointFirst x = Due.ready();
        Due.plan(x, 0, "throw 10 at 0 with 0 pace 2;throw 30 at 0 with 0;pass;throw 40 at 0 with 0;", 4);
        String[] so = {"force=12", "pace=2", "angle=0", "wearing=0", "power=99", "thrown=0", "best=0", "round=0"};
        for (String asked : so) {
            Due.law(x, 1, "wear 1000 when " + asked + ";", 1);
            Due.due("gone with the first by " + asked, x.would(0), 216);
        }
        String[] then = {"force=30", "thrown=1", "best=2", "round=1"};
        for (String asked : then) {
            Due.law(x, 1, "wear 1000 when " + asked + ";", 1);
            Due.due("gone with the second by " + asked, x.would(0), 540);
        }
        Due.law(x, 1, "wear 999;", 1);
        Due.due("999, and one more", x.would(0), 540);
        Due.law(x, 1, "wear 1000 when round=2;", 1);
        Due.due("a pass wears not", x.would(0), 720);
        Due.law(x, 1, "wear 1000 when round=3 and thrown=2;", 1);
        Due.due("the last one counts", x.would(0), 720);
        Due.law(x, 1, "wear 500 when wearing<500;wear 500 when wearing=500;", 2);
        Due.due("500 and 500", x.would(0), 540);
    }

    private static void verdict() {
        PointFirst x = new PointFirst();
        for (int e = 0; e <= 1000; e += e < 3 || e > 996 ? 1 : 83) {
            long right = 1000 - e;
            Due.due("wrong in " + e, x.verdict(e), right * right * right + 3 * right * right * e);
        }
        Due.due("all right", x.verdict(0), 1000000000L);
        Due.due("all wrong", x.verdict(1000), 0);
        Due.due("half", x.verdict(500), 500000000L);
        Due.due("below 0", x.verdict(-1), -1);
        Due.due("above 1000", x.verdict(1001), -1);
    }

    private static void rests() {
        PointFirst x = Due.ready();
        Due.law(x, 1, "mend 2;", 1);
        x.set(6, 0, 1000);
        Due.due("now", x.rests(0, 1000), 0);
        Due.due("one day", x.rests(0, 999), 1);
        Due.due("one day, just so", x.rests(0, 998), 1);
        Due.due("two days", x.rests(0, 997), 2);
        Due.due("399 days", x.rests(0, 202), 399);
        Due.due("400 days", x.rests(0, 200), 400);
        Due.due("401 would be too many", x.rests(0, 199), -1);
        x.set(6, 0, 800);
        Due.due("to 0", x.rests(0, 0), 400);
        x.set(6, 0, 801);
        Due.due("not to 0", x.rests(0, 0), -1);
        Due.due("to 1", x.rests(0, 1), 400);
        x.set(6, 0, 0);
        Due.due("rested", x.rests(0, 0), 0);
        x.set(6, 0, 1000);
        for (String law : new String[] {"mend 0;", "mend 0-1;", "mend 0-9999;"}) {
            Due.law(x, 1, law, 1);
            Due.due("never by " + law, x.rests(0, 999), -1);
            Due.due("but now by " + law, x.rests(0, 1000), 0);
        }
        Due.law(x, 1, "mend 9999;", 1);
        Due.due("at once", x.rests(0, 0), 1);
        x.set(6, 0, 600);
        x.throwIt(20, 30, 0, 0);
        x.throwIt(20, 30, 0, 0);
        String[] so = {"force=0", "pace=0", "angle=0", "power=99", "thrown=2", "best=4", "round=2"};
        for (String asked : so) {
            Due.law(x, 1, "mend 300 when " + asked + ";", 1);
            Due.due("by " + asked, x.rests(0, 0), 2);
        }
        Due.law(x, 1, "mend 300 when wearing=600;mend 1;", 2);
        Due.due("wearing as it would be", x.rests(0, 299), 2);
        int days = x.rests(0, 250);
        x.days(days);
        Due.due("so it comes", x.of(0, 1), 250);
        Due.due("and not a day sooner", days, 51);
    }
}
