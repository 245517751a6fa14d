/** Terms, 2, a FLIGHT tick by tick, and promises 18 and 34: each of its boundaries. */
final class EdgeFlightTest {
    private EdgeFlightTest() {
    }

    public static void main(String[] args) {
        byAngle();
        byForce();
        begins();
        lift();
        drag();
        dip();
        drift();
        asked();
        aheadOfTheTick();
        height();
        fourHundred();
        landing();
        sector();
        greatestHeight();
        flyEnds();
        path();
        pathOfItsLine();
        Due.finish();
    }

    /** S as the document tells it. */
    private static int s(int a) {
        int arc = a * (180 - a);
        return 4000 * arc / (40500 - arc);
    }

    /** Without a law: fore stays, up is 10 less each tick. */
    private static void byAngle() {
        Due.due("S of 0", s(0), 0);
        Due.due("S of 30", s(30), 500);
        Due.due("S of 90", s(90), 1000);
        for (int from = 0; from <= 90; from += 40) {
            PointFirst x = Due.ready();
            Due.law(x, 0, "", 0);
            for (int a = from; a <= 90 && a < from + 40; a++) {
                int up = 3 * 57 * s(a) / 1000;
                int fore = 3 * 57 * s(90 - a) / 1000;
                int height = 180;
                int ticks = 0;
                int top = 180;
                while (height > 0) {
                    up -= 10;
                    height += up;
                    top = Math.max(top, height);
                    ticks++;
                }
                Due.due("far by angle " + a, x.fly(57, a, 0, 0, 0, 0, 0), (long) ticks * fore);
                Due.due("ticks by angle " + a, x.fly(57, a, 0, 0, 0, 0, 3), ticks);
                Due.due("the greatest height by angle " + a, x.fly(57, a, 0, 0, 0, 0, 4), top);
            }
        }
    }

    private static void byForce() {
        PointFirst x = Due.ready();
        Due.due("force 0: no way", x.fly(0, 0, 0, 0, 0, 0, 0), 0);
        Due.due("force 0: six ticks", x.fly(0, 90, 0, 0, 0, 0, 3), 6);
        Due.due("force 1: 3 a tick", x.fly(1, 0, 0, 0, 0, 0, 0), 18);
        Due.due("force 99: 297 a tick", x.fly(99, 0, 0, 0, 0, 0, 0), 1782);
        // 297 times 17 by 1000 is 5, 297 times 999 by 1000 is 296: downwards
        x.throwIt(99, 1, 0, 0);
        Due.due("S of 1 is 17", x.path(0, 1, 1), 180 + 5 - 10);
        Due.due("S of 89 is 999", x.path(0, 1, 0), 296);
        Due.due("upright no way", x.fly(99, 90, 0, 0, 0, 0, 0), 0);
        Due.due("upright 297 up: 287, 277 .. 7", x.fly(99, 90, 0, 0, 0, 0, 4), 180 + (287 + 7) * 29 / 2);
    }

    /** One line by force 20 and angle 0: 60 a tick, six ticks. */
    private static PointFirst thrown() {
        PointFirst x = Due.ready();
        x.throwIt(20, 0, 0, 0);
        return x;
    }

    private static void begins() {
        PointFirst x = Due.ready();
        x.throwIt(20, 30, 0, 0);
        Due.due("far 0", x.path(0, 0, 0), 0);
        Due.due("height 180", x.path(0, 0, 1), 180);
        Due.due("off 0", x.path(0, 0, 2), 0);
        Due.due("pitch is the angle", x.path(0, 0, 3), 30);
        Due.law(x, 0, "", 0);
        for (int lie = -9; lie <= 9; lie++) {
            Due.due("pitch: the angle and the lie " + lie, x.fly(20, 30, lie, 0, 0, 0, 6), 30 + lie);
        }
        Due.law(x, 0, "dip pitch-4 when tick=0;", 1);
        Due.due("asked with the lie", x.fly(20, 0, 9, 0, 0, 0, 6), 4);
        Due.law(x, 0, "dip 9 when tick=0 and height=180 and fore=60 and up=0;", 1);
        Due.due("as it begins", x.fly(20, 0, 0, 0, 0, 0, 6), -9);
    }

    private static void onTick(PointFirst x, String law, int what, int want) {
        Due.law(x, 0, law, 1);
        Due.due("behind one tick by " + law, x.path(0, 1, what), want);
    }

    private static void lift() {
        PointFirst x = thrown();
        onTick(x, "lift 19;", 1, 189);
        onTick(x, "lift 20;", 1, 190);
        onTick(x, "lift 21;", 1, 190);
        onTick(x, "lift 9999;", 1, 190);
        onTick(x, "lift 0-19;", 1, 151);
        onTick(x, "lift 0-20;", 1, 150);
        onTick(x, "lift 0-21;", 1, 150);
        onTick(x, "lift 0-9999;", 1, 150);
        onTick(x, "lift 0;", 1, 170);
        onTick(x, "lift 1 when tick=0;", 1, 171);
        Due.due("up stays what it is: 9 less, 19 less", x.path(0, 2, 1), 171 - 19);
    }

    private static void drag() {
        PointFirst x = thrown();
        onTick(x, "drag 49;", 0, 11);
        onTick(x, "drag 50;", 0, 10);
        onTick(x, "drag 51;", 0, 10);
        onTick(x, "drag 9999;", 0, 10);
        onTick(x, "drag 1;", 0, 59);
        onTick(x, "drag 0;", 0, 60);
        onTick(x, "drag 0-1;", 0, 60);
        onTick(x, "drag 0-9999;", 0, 60);
        onTick(x, "drag 30;", 0, 30);
        Due.due("30 and 0", x.path(0, 2, 0), 30);
        onTick(x, "drag 29;", 0, 31);
        Due.due("31 and 2", x.path(0, 2, 0), 33);
        Due.due("0 at least", x.path(0, 3, 0), 33);
        onTick(x, "drag 1 when fore=60;", 0, 59);
        Due.due("fore stays what it is", x.path(0, 6, 0), 6 * 59);
    }

    private static void dip() {
        PointFirst x = thrown();
        onTick(x, "dip 8;", 3, -8);
        onTick(x, "dip 9;", 3, -9);
        onTick(x, "dip 10;", 3, -9);
        onTick(x, "dip 9999;", 3, -9);
        onTick(x, "dip 0-8;", 3, 8);
        onTick(x, "dip 0-9;", 3, 9);
        onTick(x, "dip 0-10;", 3, 9);
        onTick(x, "dip 0;", 3, 0);
        onTick(x, "dip 4;", 3, -4);
        Due.due("taken each tick", x.path(0, 6, 3), -24);
    }

    private static void drift() {
        PointFirst x = thrown();
        onTick(x, "drift 8;", 2, 8);
        onTick(x, "drift 9;", 2, 9);
        onTick(x, "drift 10;", 2, 9);
        onTick(x, "drift 9999;", 2, 9);
        onTick(x, "drift 0-8;", 2, -8);
        onTick(x, "drift 0-9;", 2, -9);
        onTick(x, "drift 0-10;", 2, -9);
        onTick(x, "drift 2;", 2, 2);
        for (int n = 0; n <= 6; n++) {
            Due.due("out grows, off by it: " + n, x.path(0, n, 2), n * (n + 1));
        }
        onTick(x, "drift 5 when tick=0;", 2, 5);
        Due.due("out stays what it is", x.path(0, 6, 2), 30);
    }

    /** Each word that a law asks in the first tick, just as it is and not one more or less. */
    private static void asked() {
        PointFirst x = new PointFirst();
        x.spear(3, 9);
        x.spear(0, 7);
        String[] words = {"fore", "up", "height", "pitch", "wind", "side", "soft", "tip", "tick"};
        int[] is = {30, 51, 180, 64, -29, 29, 0, 7, 0};
        for (int k = 0; k < words.length; k++) {
            for (int more = -1; more <= 1; more++) {
                int v = is[k] + more;
                String sum = v < 0 ? words[k] + "+" + -v + "=0" : words[k] + "=" + v;
                Due.law(x, 0, "dip 9 when " + sum + " and height=180;", 1);
                Due.due("asked " + sum, x.fly(20, 60, 4, 1, -29, 29, 6), more == 0 ? 55 : 64);
            }
        }
        Due.law(x, 0, "dip soft*2+tip when tick=0;", 1);
        Due.due("of the spear that flies", x.fly(20, 60, 0, 1, 0, 0, 6), 53);
        Due.due("of another one", x.fly(20, 60, 0, 0, 0, 0, 6), 51);
        Due.law(x, 0, "dip wind when tick=0;", 1);
        x.set(0, 0, 5);
        x.set(1, 0, 5);
        Due.due("not WIND as now", x.fly(20, 60, 0, 1, 0, 0, 6), 60);
        Due.law(x, 0, "dip side when tick=0;", 1);
        Due.due("nor SIDE", x.fly(20, 60, 0, 1, 0, 0, 6), 60);
    }

    /** In the second tick all is asked as the first one left it; what one word changes the next does not see. */
    private static void aheadOfTheTick() {
        PointFirst x = thrown();
        String[] words = {"fore", "up+20", "height", "pitch+20", "tick"};
        int[] is = {57, 11, 171, 16, 1};
        for (int k = 0; k < words.length; k++) {
            for (int more = -1; more <= 1; more++) {
                Due.law(x, 0, "lift 1;drag 3;dip 4 when tick<1;drift 7 when " + words[k] + "=" + (is[k] + more)
                        + " and tick=1;", 4);
                Due.due("asked " + words[k] + "=" + (is[k] + more), x.path(0, 2, 2), more == 0 ? 7 : 0);
            }
        }
        Due.law(x, 0, "lift 7;drag up+height-175;dip fore-55;drift pitch+up+fore-59;", 4);
        Due.due("drag by up and height of before: 5", x.path(0, 1, 0), 55);
        Due.due("dip by fore of before: 5", x.path(0, 1, 3), -5);
        Due.due("drift by all of before: 1", x.path(0, 1, 2), 1);
    }

    /** It flies while its height is above 0. */
    private static void height() {
        PointFirst x = thrown();
        // 170 150 120 80 30: the sixth tick is -30
        Due.law(x, 0, "lift 20 when tick=5;lift 10 when tick=4;", 2);
        Due.due("80 less 40, less 30", x.path(0, 6, 1), 80 - 40 - 30);
        Due.law(x, 0, "lift 15 when tick=4;lift 0 when tick=5;", 2);
        Due.due("0 is landed", x.fly(20, 0, 0, 0, 0, 0, 3), 6);
        Due.due("at 0", x.path(0, 400, 1), 0);
        Due.law(x, 0, "lift 15 when tick=4;lift 1 when tick=5;", 2);
        Due.due("1 is not", x.fly(20, 0, 0, 0, 0, 0, 3), 7);
        Due.due("it was 1", x.path(0, 6, 1), 1);
        Due.law(x, 0, "lift 15 when tick=4;lift 0-1 when tick=5;", 2);
        Due.due("-1 is", x.fly(20, 0, 0, 0, 0, 0, 3), 6);
        Due.due("at -1", x.path(0, 6, 1), -1);
    }

    /** 180 high until the tick that is told, then down in six: cut off by the 400th. */
    private static void fourHundred() {
        PointFirst x = thrown();
        int[] ends = {392, 393, 394, 395, 399, 400, 401};
        int[] ticks = {398, 399, 400, 400, 400, 400, 400};
        int[] heights = {-30, -30, -30, 30, 170, 180, 180};
        for (int k = 0; k < ends.length; k++) {
            Due.law(x, 0, "lift 10 when tick<" + ends[k] + ";", 1);
            Due.due("ticks, until " + ends[k], x.fly(20, 0, 0, 0, 0, 0, 3), ticks[k]);
            Due.due("far, until " + ends[k], x.fly(20, 0, 0, 0, 0, 0, 0), 60 * ticks[k]);
            Due.due("height, until " + ends[k], x.path(0, 400, 1), heights[k]);
            Due.due("399 ticks, until " + ends[k], x.path(0, 399, 0), Math.min(399, ticks[k]) * 60);
        }
        Due.law(x, 0, "lift 10;dip 1 when tick=399;", 2);
        Due.due("with the 400th it has landed point first", x.fly(20, 0, 0, 0, 0, 0, 1), 0);
        Due.due("GOOD too", x.fly(20, 0, 0, 0, 0, 0, 5), 1);
        Due.due("not sooner", x.path(0, 399, 3), 0);
        Due.law(x, 0, "lift 10;dip 1 when tick=400;", 2);
        Due.due("there is no tick 400", x.fly(20, 0, 0, 0, 0, 0, 1), 1);
        Due.law(x, 0, "lift 20;dip 9;drift 9;", 3);
        Due.due("far off", x.fly(99, 0, 0, 0, 0, 0, 2), 9 * 400 * 401 / 2);
        Due.due("the lowest pitch", x.fly(99, 0, 0, 0, 0, 0, 6), -3600);
        Due.due("up and up", x.fly(99, 90, 0, 0, 0, 0, 4), 180 + 400 * 297 + 10 * 400 * 401 / 2);
    }

    private static void landing() {
        PointFirst x = Due.ready();
        int[] pitches = {-9, -2, -1, 0, 1, 8, 9, 10, 11, 60};
        int[] lands = {0, 0, 0, 1, 1, 1, 1, 2, 2, 2};
        for (int k = 0; k < pitches.length; k++) {
            int angle = Math.max(0, pitches[k]);
            Due.law(x, 0, pitches[k] < 0 ? "dip " + -pitches[k] + " when tick=0;" : "drift 0;", 1);
            Due.due("pitch " + pitches[k], x.fly(10, angle, 0, 0, 0, 0, 6), pitches[k]);
            Due.due("landed by pitch " + pitches[k], x.fly(10, angle, 0, 0, 0, 0, 1), lands[k]);
            Due.due("GOOD by pitch " + pitches[k], x.fly(10, angle, 0, 0, 0, 0, 5), lands[k] == 0 ? 1 : 0);
        }
        // the pitch when it lands counts, not the one on the way
        Due.law(x, 0, "dip 9 when tick<3;dip 0-9 when tick<6;", 2);
        Due.due("up again", x.fly(10, 0, 0, 0, 0, 0, 1), 1);
        Due.law(x, 0, "dip 0-9 when tick<2;dip 9 when tick<5;", 2);
        Due.due("down in the end", x.fly(10, 0, 0, 0, 0, 0, 1), 0);
    }

    /** By force 10 and angle 0 it comes 180 far and six times the first drift aside. */
    private static void sector() {
        PointFirst x = Due.ready();
        int[] drifts = {1, 2, 5, 5, 5, 5, 3, 3, 9, 9, 0};
        int[] sectors = {20, 15, 6, 7, 5, 20, 10, 11, 3, 4, 20};
        for (int k = 0; k < drifts.length; k++) {
            x.set(4, 0, sectors[k]);
            boolean good = 6 * drifts[k] * sectors[k] <= 180;
            Due.law(x, 0, "dip 1;drift " + drifts[k] + " when tick=0;", 2);
            Due.due("off", x.fly(10, 0, 0, 0, 0, 0, 2), 6 * drifts[k]);
            Due.due(drifts[k] + " by " + sectors[k], x.fly(10, 0, 0, 0, 0, 0, 5), Rich.bit(good));
            Due.law(x, 0, "dip 1;drift 0-" + drifts[k] + " when tick=0;", 2);
            Due.due("off to the left", x.fly(10, 0, 0, 0, 0, 0, 2), -6 * drifts[k]);
            Due.due("-" + drifts[k] + " by " + sectors[k], x.fly(10, 0, 0, 0, 0, 0, 5), Rich.bit(good));
        }
        x.set(4, 0, 6);
        Due.law(x, 0, "dip 1;drift 5 when tick=0;drag 1 when tick=5;", 3);
        Due.due("180 is above 179", x.fly(10, 0, 0, 0, 0, 0, 5), 0);
        Due.law(x, 0, "dip 1;drift 5 when tick=0;", 2);
        Due.due("but not above 180", x.fly(10, 0, 0, 0, 0, 0, 5), 1);
        Due.due("far 0 with none aside", x.fly(0, 0, 0, 0, 0, 0, 5), 0);
        Due.law(x, 0, "dip 1;", 1);
        Due.due("0 is not above 0", x.fly(0, 0, 0, 0, 0, 0, 5), 1);
        Due.law(x, 0, "dip 0;drift 0;", 2);
        Due.due("flat in the sector", x.fly(10, 0, 0, 0, 0, 0, 5), 0);
        PointFirst y = Due.ready();
        Due.law(y, 0, "dip 1;drift 1;", 2);
        Due.due("at first 7: 21 by 7 is 147", y.fly(10, 0, 0, 0, 0, 0, 5), 1);
        Due.due("21 by 7 is above 144", y.fly(8, 0, 0, 0, 0, 0, 5), 0);
    }

    private static void greatestHeight() {
        PointFirst x = Due.ready();
        Due.law(x, 0, "", 0);
        Due.due("180 where it begins", x.fly(10, 0, 0, 0, 0, 0, 4), 180);
        Due.law(x, 0, "lift 10 when tick=0;", 1);
        Due.due("180 once more", x.fly(10, 0, 0, 0, 0, 0, 4), 180);
        Due.law(x, 0, "lift 11 when tick=0;", 1);
        Due.due("181", x.fly(10, 0, 0, 0, 0, 0, 4), 181);
        Due.law(x, 0, "lift 20 when tick>2;", 1);
        Due.due("down 170 150 120, then 110 110 120 .. for ever", x.fly(10, 0, 0, 0, 0, 0, 4) > 180, true);
        Due.law(x, 0, "lift 20 when tick=3;lift 20 when tick=4;lift 20 when tick=5;lift 20 when tick=6;", 4);
        Due.due("again not above 180", x.fly(10, 0, 0, 0, 0, 0, 4), 180);
    }

    /** The ends of what fly takes; just outside of them it is refused (RefusedTest). */
    private static void flyEnds() {
        PointFirst x = new PointFirst();
        for (int k = 0; k < 6; k++) {
            x.spear(k, 9 - k);
        }
        Due.law(x, 0, "dip pitch/9+soft-tip+wind/5+side/7 when tick=0;", 1);
        Due.due("force 0, angle 0", x.fly(0, 0, 0, 0, 0, 0, 6), 9);
        Due.due("force 99", x.fly(99, 0, 0, 0, 0, 0, 6), 9);
        Due.due("angle 90", x.fly(0, 90, 0, 0, 0, 0, 6), 89);
        Due.due("lie -9", x.fly(0, 90, -9, 0, 0, 0, 6), 81);
        Due.due("lie 9", x.fly(0, 90, 9, 0, 0, 0, 6), 97);
        Due.due("spear 5", x.fly(0, 0, 0, 5, 0, 0, 6), -1);
        Due.due("wind -29", x.fly(0, 0, 0, 5, -29, 0, 6), 4);
        Due.due("wind 29", x.fly(0, 0, 0, 5, 29, 0, 6), -6);
        Due.due("side -29", x.fly(0, 0, 0, 5, 0, -29, 6), 3);
        Due.due("side 29", x.fly(0, 0, 0, 5, 0, 29, 6), -5);
        int[] want = {1800 / 100 * 6, 1, 0, 6, 180, 0, 9};
        for (int what = 0; what <= 6; what++) {
            Due.due("what " + what, x.fly(6, 0, 0, 0, 0, 0, what), want[what]);
        }
    }

    private static void path() {
        PointFirst x = thrown();
        Due.law(x, 0, "dip 2;drift 1;drag 1;", 3);
        int[] heights = {180, 170, 150, 120, 80, 30, -30};
        int far = 0;
        for (int n = 0; n <= 6; n++) {
            far += n > 0 ? 60 - n : 0;
            Due.due("far behind " + n, x.path(0, n, 0), far);
            Due.due("height behind " + n, x.path(0, n, 1), heights[n]);
            Due.due("off behind " + n, x.path(0, n, 2), n * (n + 1) / 2);
            Due.due("pitch behind " + n, x.path(0, n, 3), -2 * n);
        }
        for (int n : new int[] {7, 8, 399, 400}) {
            Due.due("landed, far " + n, x.path(0, n, 0), far);
            Due.due("landed, height " + n, x.path(0, n, 1), -30);
            Due.due("landed, off " + n, x.path(0, n, 2), 21);
            Due.due("landed, pitch " + n, x.path(0, n, 3), -12);
        }
        Due.due("the first line alone", x.path(1, 0, 0), -10000);
    }

    /** By the line's force, its angle with the slip, its wind with the gust and its SPEAR; by SIDE as now and lie 0. */
    private static void pathOfItsLine() {
        PointFirst x = Due.ready();
        x.spear(0, 8);
        x.set(5, 0, 30);
        x.set(0, 0, 4);
        x.set(1, 0, 3);
        x.set(2, 0, 9);
        x.set(3, 0, 9);
        x.state(77);
        x.throwIt(25, 40, 1, 9);
        int angle = x.book(0, 5);
        int wind = x.book(0, 6);
        Due.due("it slipped", angle != 40, true);
        Due.due("it was gusty", wind != 4, true);
        Due.due("held to POWER", x.book(0, 4), 30);
        Due.due("pitch by the angle with the slip", x.path(0, 0, 3), angle);
        Due.law(x, 0, "drag wind+20;", 1);
        int fore = 3 * 30 * s(90 - angle) / 1000;
        Due.due("force, wind with the gust", x.path(0, 1, 0), fore - (wind + 20));
        Due.law(x, 0, "drift tip;", 1);
        Due.due("its SPEAR", x.path(0, 1, 2), 8);
        Due.law(x, 0, "drift side;", 1);
        Due.due("SIDE", x.path(0, 1, 2), 3);
        x.set(1, 0, -7);
        Due.due("SIDE as now", x.path(0, 1, 2), -7);
        x.set(0, 0, 20);
        x.set(2, 0, 0);
        x.set(3, 0, 0);
        x.set(5, 0, 1);
        Due.law(x, 0, "drag wind+20;", 1);
        Due.due("of what is now nothing else", x.path(0, 1, 0), fore - (wind + 20));
    }
}
