/** Promises 1 to 9 and 25: what is told. */
final class ToldTest {
    private ToldTest() {
    }

    public static void main(String[] args) {
        newObject();
        state();
        spear();
        thrower();
        set();
        feedAndEnd();
        texts();
        lawsAsTold();
        faultsOfLaws();
        faultsDeep();
        faultsOfPlans();
        plansAsTold();
        faultItself();
        gust();
        Due.finish();
    }

    private static void newObject() {
        PointFirst x = new PointFirst();
        Due.due("NONE", PointFirst.NONE, -1);
        for (int what = 0; what <= 11; what++) {
            Due.due("new look " + what, x.look(what), 0);
        }
        for (int what = 20; what <= 23; what++) {
            Due.due("new look " + what, x.look(what), 0);
        }
        Due.due("new look 24", x.look(24), 7);
        Due.due("new fault(0)", x.fault(0), 0);
        Due.due("new fault(1)", x.fault(1), -1);
        Due.due("new undo", x.undo(), false);
        Due.due("new image(false)", x.image(false), false);
        Due.due("new of", x.of(0, 0), -1);
        Due.due("new end(0)", x.end(0), true);
        Due.due("new end(1)", x.end(1), false);
    }

    private static void state() {
        PointFirst x = new PointFirst();
        Due.due("state was", x.state(5), 0);
        Due.due("state was 5", x.state(Integer.MIN_VALUE), 5);
        Due.due("look 6", x.look(6), Integer.MIN_VALUE);
        Due.due("state was least", x.state(0), Integer.MIN_VALUE);
    }

    private static void spear() {
        PointFirst x = new PointFirst();
        Due.due("soft -1", x.spear(-1, 0), -1);
        Due.due("soft 10", x.spear(10, 0), -1);
        Due.due("tip -1", x.spear(0, -1), -1);
        Due.due("tip 10", x.spear(0, 10), -1);
        for (int k = 0; k < 6; k++) {
            Due.due("spear " + k, x.spear(k == 0 ? 0 : 9, k == 0 ? 9 : 0), k);
        }
        Due.due("a seventh", x.spear(1, 1), -1);
        Due.due("how many", x.look(0), 6);
        Due.due("at 0 soft", x.at(0, 0), 0);
        Due.due("at 0 tip", x.at(0, 1), 9);
        Due.due("at 5 soft", x.at(5, 0), 9);
    }

    private static void thrower() {
        PointFirst x = new PointFirst();
        Due.due("power -1", x.thrower(-1), -1);
        Due.due("power 100", x.thrower(100), -1);
        for (int k = 0; k < 8; k++) {
            Due.due("thrower " + k, x.thrower(k == 0 ? 0 : 99), k);
        }
        Due.due("a ninth", x.thrower(1), -1);
        PointFirst y = Due.ready();
        y.pass();
        Due.due("behind a pass", y.thrower(1), -1);
        y.undo();
        Due.due("the pass undone", y.thrower(1), 1);
        y.throwIt(20, 30, 0, 0);
        Due.due("behind a throw", y.thrower(1), -1);
        y.meet();
        Due.due("a meet anew", y.thrower(1), 2);
        y.turnsGo(48);
        Due.due("the meet is over", y.thrower(1), -1);
    }

    private static void set() {
        int[] low = {-20, -20, 0, 0, 1, 0, 0};
        int[] high = {20, 20, 9, 9, 20, 99, 1000};
        PointFirst x = Due.ready();
        for (int what = 0; what <= 6; what++) {
            Due.due("below " + what, x.set(what, 0, low[what] - 1), false);
            Due.due("above " + what, x.set(what, 0, high[what] + 1), false);
            Due.due("low " + what, x.set(what, 0, low[what]), true);
            Due.due("shown low " + what, shown(x, what), low[what]);
            Due.due("high " + what, x.set(what, 0, high[what]), true);
            Due.due("shown high " + what, shown(x, what), high[what]);
        }
        Due.due("who not asked", x.set(0, 99, 3), true);
        Due.due("wind", x.look(20), 3);
        Due.due("no such thrower", x.set(5, 1, 3), false);
        Due.due("nor that", x.set(6, -1, 3), false);
        Due.due("what -1", x.set(-1, 0, 3), false);
        Due.due("what 7", x.set(7, 0, 3), false);
    }

    private static int shown(PointFirst x, int what) {
        return what < 5 ? x.look(20 + what) : x.of(0, what - 5);
    }

    private static void feedAndEnd() {
        PointFirst x = new PointFirst();
        for (int n = 20; n <= 400; n += 20) {
            Due.due("feed", x.feed(0, 0, 0, 0, 0), n);
        }
        Due.due("full", x.feed(0, 0, 0, 0, 0), -1);
        Due.due("end 401", x.end(401), false);
        Due.due("end -1", x.end(-1), false);
        Due.due("end 400", x.end(400), true);
        Due.due("end 381", x.end(381), true);
        Due.due("no room for twenty", x.feed(0, 0, 0, 0, 0), -1);
        Due.due("end 382", x.end(382), false);
        Due.due("end 380", x.end(380), true);
        Due.due("room again", x.feed(0, 0, 0, 0, 0), 400);
        // each number's highest byte first, one number behind the other
        PointFirst y = Due.ready();
        y.feed('g' << 24 | 'a' << 16 | 'i' << 8 | 'n', ' ' << 24 | '1' << 16 | ';' << 8 | 'c',
                'o' << 24 | 's' << 16 | 't' << 8 | ' ', '2' << 24 | ';' << 16 | 'c' << 8 | 'o',
                's' << 24 | 't' << 16 | '3' << 8 | ';');
        Due.due("twenty bytes", y.text(3, 0), 3);
        Due.due("the tape is empty", y.end(1), false);
        Due.put(y, 0, "gain");
        Due.put(y, 4, " 1;");
        Due.due("behind what was", y.text(3, 0), 1);
    }

    private static void texts() {
        PointFirst x = Due.ready();
        Due.law(x, 1, "wear 7;", 1);
        Due.law(x, 3, "gain 1;cost 2;", 2);
        Due.due("look 7", x.look(7), 1);
        Due.due("look 8", x.look(8), 1);
        Due.due("look 11", x.look(11), 2);
        Due.fault(x, 1, "wear 8;wear", 1, 11);
        Due.due("the law as it was", x.holds(0, 1, 1), 60);
        Due.due("its lines too", x.look(8), 1);
        Due.due("the tape is empty", x.end(1), false);
        for (int k : new int[] {-1, 4, 99}) {
            Due.put(x, 0, "no");
            Due.due("no such text", x.text(k, 0), -1);
            Due.due("fault tells 0", x.fault(0), 0);
            Due.due("and no place", x.fault(1), -1);
            Due.due("the tape is empty then", x.end(1), false);
        }
        Due.fault(x, 3, "no", 1, 0);
        Due.put(x, 0, "no");
        Due.due("no such thrower", x.text(2, 1), -1);
        Due.due("fault tells 0", x.fault(0), 0);
        Due.due("no place", x.fault(1), -1);
        Due.due("the tape is empty as well", x.end(1), false);
        Due.due("thrower not asked", Due.tell(x, 0, 77, "lift 1;lift 2;"), 2);
        Due.law(x, 0, "", 0);
        Due.due("no lines", x.look(7), 0);
        Due.law(x, 0, " \n ", 0);
        String line = "lift 1;";
        Due.law(x, 0, line.repeat(16), 16);
    }

    /** Each asked word, each sign, what comes first: shown by balls of training and what power they give. */
    private static void lawsAsTold() {
        PointFirst x = Due.ready();
        String[][] sums = {{"1+2*3", "7"}, {"8-3-2", "3"}, {"9/2", "4"}, {"7/2*2", "6"}, {"2*9/4", "4"},
            {"12-2*3+1", "7"}, {"0-7/2+4", "1"}, {"power-43", "7"}, {"wearing-300", "5"}, {"week+6", "6"},
            {"9999*9999*9999/9999", "0"}, {"0009", "9"}, {"2\n*\n 3", "6"}};
        x.set(6, 0, 305);
        x.set(5, 0, 50);
        for (String[] sum : sums) {
            Due.law(x, 3, "gain " + sum[0] + ";", 1);
            Due.due("gain " + sum[0], x.train(0, 1, 1000, 0), 50 + Integer.parseInt(sum[1]));
        }
        String[][] whens = {{"1<2", "1"}, {"2<2", "0"}, {"2=2", "1"}, {"1=2", "0"}, {"2>1", "1"}, {"2>2", "0"},
            {"not 1=1", "0"}, {"not 1=2", "1"},
            {"1<2 and 1=1", "1"}, {"2>1 and 1<2", "1"}, {"1=1 or 1=1 and 1=2", "1"}, {"(1=1 or 1=1) and 1=2", "0"}, {"not 1=2 and 1=2", "0"},
            {"not (1=2 and 1=2)", "1"}, {"not not 1=1", "1"}, {"1=2 or 1=2 or 1=1", "1"},
            {"1=1 and 1=1 and 1=2", "0"}, {"1=2 and 1=2 or 1=1", "1"}, {"not 1=1 or 1=1", "1"},
            {"((1=1))", "1"}, {"1+1=2", "1"}, {"2<1+2", "1"}};
        for (String[] when : whens) {
            Due.law(x, 3, "gain 3 when " + when[0] + ";gain 5;gain 9;", 3);
            Due.due("when " + when[0], x.train(0, 1, 1000, 0), when[1].equals("1") ? 53 : 55);
        }
        Due.law(x, 3, "gain 9 when 1=2;".repeat(15) + "gain 1+2*3;", 16);
        Due.due("the sixteenth line", x.train(0, 1, 1000, 0), 57);
        Due.law(x, 3, "gain 3 when 1=2;cost 0;", 2);
        Due.due("0 without one", x.train(0, 1, 1000, 0), 50);
        Due.law(x, 0, "lift 20;drag fore+up+height+pitch+wind+side+soft+tip+tick;dip 1;drift 1;", 4);
        Due.law(x, 1, "over force+pace+angle+wearing+power+thrown+best+round;wear 1;mend 1;", 3);
        Due.law(x, 3, "gain balls+power+wearing+week;cost 1;", 2);
    }

    private static void faultsOfLaws() {
        PointFirst x = Due.ready();
        Due.fault(x, 0, "over 1;", 1, 0);
        Due.fault(x, 1, "lift 1;", 1, 0);
        Due.fault(x, 3, "over 1;", 1, 0);
        Due.fault(x, 0, "fore 1;", 1, 0);
        Due.fault(x, 1, "force 1;", 1, 0);
        Due.fault(x, 3, "balls 1;", 1, 0);
        Due.fault(x, 0, ";".repeat(400), 1, 0);
        Due.law(x, 0, " ".repeat(400), 0);
        Due.law(x, 0, "lift 1" + "+1".repeat(196) + " ;", 1);
        Due.fault(x, 0, "lift 1" + "+1".repeat(197), 1, 400);
        Due.fault(x, 0, "lift force;", 1, 5);
        Due.fault(x, 1, "over wind;", 1, 5);
        Due.fault(x, 3, "gain round;", 1, 5);
        Due.fault(x, 0, "lift", 1, 4);
        Due.fault(x, 0, "lift  ", 1, 6);
        Due.fault(x, 0, "lift 1 ", 1, 7);
        Due.fault(x, 0, "lift;", 1, 4);
        Due.fault(x, 0, "lift 1 2;", 1, 7);
        Due.fault(x, 0, "lift 1;;", 1, 7);
        Due.fault(x, 0, "Lift 1;", 1, 0);
        Due.fault(x, 0, "liftt 1;", 1, 0);
        Due.fault(x, 0, "lif 1;", 1, 0);
        Due.law(x, 0, "lift1when1<2or2<1;", 1);
        Due.fault(x, 0, "lift 12345;", 1, 5);
        Due.law(x, 0, "lift 9999;", 1);
        Due.fault(x, 0, "lift -1;", 1, 5);
        Due.fault(x, 0, "lift (1);", 1, 5);
        Due.fault(x, 0, "lift 1+;", 1, 7);
        Due.fault(x, 0, "lift 1*;", 1, 7);
        Due.fault(x, 0, "lift 1/;", 1, 7);
        Due.fault(x, 0, "lift 1/up;", 1, 7);
        Due.fault(x, 0, "lift 1/0;", 2, 7);
        Due.fault(x, 0, "lift 1/0000;", 2, 7);
        Due.fault(x, 0, "lift 1/00000;", 1, 7);
        Due.law(x, 0, "lift 1/1;", 1);
        Due.fault(x, 0, "lift 1\t;", 1, 6);
        Due.fault(x, 0, "lift 1\r;", 1, 6);
        Due.fault(x, 0, "lift 1\u0000;", 1, 6);
        Due.fault(x, 0, "lift 1\u00e9;", 1, 6);
        Due.fault(x, 0, "lift 1,", 1, 6);
        Due.fault(x, 0, "lift 1 when;", 1, 11);
        Due.fault(x, 0, "lift 1 when up;", 1, 14);
        Due.fault(x, 0, "lift 1 when up<;", 1, 15);
        Due.fault(x, 0, "lift 1 when up<1<2;", 1, 16);
        Due.fault(x, 0, "lift 1 when (up)<1;", 1, 15);
        Due.fault(x, 0, "lift 1 when (up<1;", 1, 17);
        Due.fault(x, 0, "lift 1 when up<1);", 1, 16);
        Due.fault(x, 0, "lift 1 when up<1 and;", 1, 20);
        Due.fault(x, 0, "lift 1 when up<1 or;", 1, 19);
        Due.fault(x, 0, "lift 1 when up<1 not up<1;", 1, 17);
        Due.fault(x, 0, "lift 1 when not;", 1, 15);
        Due.fault(x, 0, "lift 1 when up<1 when up<1;", 1, 17);
        Due.fault(x, 0, "when 1;", 1, 0);
        Due.fault(x, 0, "lift 1/0 2/0;", 2, 7);
        Due.fault(x, 0, "lift 1;) 1/0", 1, 7);
        Due.fault(x, 0, "throw 1 at 1 with 0;", 1, 0);
    }

    private static void faultsDeep() {
        PointFirst x = Due.ready();
        String line = "lift 1;";
        Due.fault(x, 0, line.repeat(17), 3, 112);
        Due.fault(x, 0, line.repeat(16) + "lif 1;", 1, 112);
        Due.fault(x, 0, line.repeat(16) + "1", 1, 112);
        Due.fault(x, 0, line.repeat(16) + "dip", 3, 112);
        Due.law(x, 0, "lift 1 when ((((((((1=1))))))));", 1);
        Due.fault(x, 0, "lift 1 when (((((((((1=1)))))))));", 3, 20);
        Due.law(x, 0, "lift 1 when not not not not not not not not 1=1;", 1);
        Due.fault(x, 0, "lift 1 when not not not not not not not not not 1=1;", 3, 44);
        Due.fault(x, 0, "lift 1 when not not not not ((((not 1=1))));", 3, 32);
        Due.fault(x, 0, "lift 1 when not(not(not(not((", 3, 28);
        Due.law(x, 0, "lift 1 when not not not not ((((1=1))));", 1);
        Due.law(x, 0, "lift 1 when not not not not 1=1 and not not not not not not not not 1=1;", 1);
        Due.law(x, 0, "lift 1 when ((((((((1=1 and 1=1)))))))) or ((((((((1=1))))))));", 1);
        Due.law(x, 0, "lift 1 when ((((((((1=1)))) and (1=1)))) and not(1=1));", 1);
        Due.fault(x, 0, "lift 1 when ((((((((1=1)) or (((1=1;", 3, 31);
        Due.fault(x, 0, "lift 1 when ((((((((1=1))))))) or (((1=1)));", 1, 43);
        Due.fault(x, 0, "lift 1 when ((((((((1=1)(", 1, 24);
    }

    private static void faultsOfPlans() {
        PointFirst x = Due.ready();
        Due.fault(x, 2, "throw 100 at 1 with 0;", 2, 6);
        Due.fault(x, 2, "throw 1 at 61 with 0;", 2, 11);
        Due.fault(x, 2, "throw 1 at 1 with 1;", 2, 18);
        Due.fault(x, 2, "throw 1 at 1 with 0 pace 10;", 2, 25);
        Due.fault(x, 2, "throw 12345 at 1 with 0;", 1, 6);
        Due.fault(x, 2, "throw 1 at 1 with 0 below 12345;", 1, 26);
        Due.fault(x, 2, "throw 1 at 1 with 0 below 5 pace 1;", 1, 28);
        Due.fault(x, 2, "throw 1 at 1 with 0 pace 1 pace 1;", 1, 27);
        Due.fault(x, 2, "throw 1 at 1;", 1, 12);
        Due.fault(x, 2, "throw at 1 with 0;", 1, 6);
        Due.fault(x, 2, "throw 1 with 0;", 1, 8);
        Due.fault(x, 2, "throw 1 at 1 with 0", 1, 19);
        Due.fault(x, 2, "throw 1 at 1 with 0 pace;", 1, 24);
        Due.fault(x, 2, "throw power at 1 with 0;", 1, 6);
        Due.fault(x, 2, "pass", 1, 4);
        Due.fault(x, 2, "pass pass;", 1, 5);
        Due.fault(x, 2, "pass below 3;", 1, 5);
        Due.fault(x, 2, "run;", 1, 0);
        Due.fault(x, 2, "lift 1;", 1, 0);
        Due.fault(x, 2, ";", 1, 0);
        Due.fault(x, 2, "pass;".repeat(13), 3, 60);
        Due.fault(x, 2, "pass;".repeat(12) + "throw", 3, 60);
        Due.fault(x, 2, "pass;".repeat(12) + "at", 1, 60);
        PointFirst y = new PointFirst();
        y.thrower(1);
        Due.fault(y, 2, "throw 1 at 1 with 0;", 2, 18);
        y.spear(1, 1);
        Due.plan(y, 0, "throw 1 at 1 with 0;", 1);
    }

    private static void plansAsTold() {
        PointFirst x = Due.ready();
        Due.plan(x, 0, "pass;".repeat(12), 12);
        Due.due("twelve left", x.of(0, 6), 12);
        Due.fault(x, 2, "pass;run", 1, 5);
        Due.due("the plan as it was", x.of(0, 6), 12);
        x.turnsGo(2);
        Due.due("ten left", x.of(0, 6), 10);
        Due.plan(x, 0, "throw 99 at 60 with 0 pace 9 below 9999;pass;throw 0 at 0 with 0 pace 0;", 3);
        Due.due("from its first order", x.of(0, 6), 3);
        Due.due("two throws", x.turnsGo(3), 2);
        Due.due("force", x.book(0, 4), 99);
        Due.due("angle", x.book(0, 5), 60);
        Due.due("force of the other", x.book(1, 4), 0);
        Due.plan(x, 0, "", 0);
        Due.due("nothing left", x.of(0, 6), 0);
    }

    private static void faultItself() {
        PointFirst x = Due.ready();
        Due.fault(x, 0, "lift 1/0;", 2, 7);
        Due.due("fault(2)", x.fault(2), -1);
        Due.due("fault(-1)", x.fault(-1), -1);
        x.meet();
        x.image(true);
        Due.law(x, 0, "lift 1;", 1);
        Due.fault(x, 1, "over", 1, 4);
        x.image(false);
        Due.due("not of the image", x.fault(0), 1);
        Due.due("nor its place", x.fault(1), 4);
    }

    private static void gust() {
        PointFirst x = Due.ready();
        Due.due("-30", x.gust(-30), -1);
        Due.due("30", x.gust(30), -1);
        Due.due("-99", x.gust(-99), -1);
        Due.due("-101", x.gust(-101), -1);
        for (int n = 1; n <= 60; n++) {
            Due.due("gust " + n, x.gust(n % 2 == 0 ? -29 : 29), n);
        }
        Due.due("a sixty-first", x.gust(0), -1);
        Due.due("how many", x.look(10), 60);
        Due.due("empty", x.gust(-100), 0);
        Due.due("none", x.look(10), 0);
        Due.due("again", x.gust(0), 1);
    }
}
