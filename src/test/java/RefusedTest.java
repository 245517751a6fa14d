/** Of each promise the calls that can't be: what they answer, and that they change nothing; nor does what is thought. */
final class RefusedTest {
    private static final int LEAST = Integer.MIN_VALUE;
    private static final int MOST = Integer.MAX_VALUE;

    private RefusedTest() {
    }

    public static void main(String[] args) {
        told();
        toldWhereNoRoomIs();
        texts();
        done();
        doneByNobody();
        doneWhenOver();
        doneByOneWhoseElbowIsGone();
        nothingToGoBackTo();
        seen();
        flights();
        angles();
        windsAndLines();
        throwers();
        noneIsGood();
        thoughts();
        Due.finish();
    }

    /** What is just below low and just above high, and the ends of all ints. */
    private static int[] outside(int low, int high) {
        return new int[] {low - 1, high + 1, LEAST, MOST};
    }

    private static void told() {
        for (int v : outside(0, 9)) {
            Rich.stays("3: spear(" + v + ", 0)", -1, x -> x.spear(v, 0));
            Rich.stays("3: spear(0, " + v + ")", -1, x -> x.spear(0, v));
        }
        for (int v : outside(0, 99)) {
            Rich.stays("4: thrower(" + v + ")", -1, RefusedTest::anew, x -> x.thrower(v));
        }
        Rich.stays("4: thrower(50) behind a THROW", -1, x -> x.thrower(50));
        int[] low = {-20, -20, 0, 0, 1, 0, 0};
        int[] high = {20, 20, 9, 9, 20, 99, 1000};
        for (int what = 0; what < 7; what++) {
            int w = what;
            for (int v : outside(low[what], high[what])) {
                Rich.stays("5: set(" + what + ", 0, " + v + ")", 0, x -> Rich.bit(x.set(w, 0, v)));
            }
        }
        for (int who : outside(0, 2)) {
            Rich.stays("5: set(5, " + who + ", 1)", 0, x -> Rich.bit(x.set(5, who, 1)));
            Rich.stays("5: set(6, " + who + ", 1)", 0, x -> Rich.bit(x.set(6, who, 1)));
        }
        for (int what : outside(0, 6)) {
            Rich.stays("5: set(" + what + ", 0, 1)", 0, x -> Rich.bit(x.set(what, 0, 1)));
        }
        for (int n : outside(0, 14)) {
            Rich.stays("7: end(" + n + ")", 0, x -> Rich.bit(x.end(n)));
        }
        for (int what : outside(0, 1)) {
            Rich.stays("9: fault(" + what + ")", -1, x -> x.fault(what));
        }
        for (int wind : outside(-29, 29)) {
            Rich.stays("25: gust(" + wind + ")", -1, x -> x.gust(wind));
        }
        Rich.stays("25: gust(-99)", -1, x -> x.gust(-99));
        Rich.stays("25: gust(-101)", -1, x -> x.gust(-101));
    }

    /** Rich, with a MEET that none threw in yet. */
    private static PointFirst anew() {
        PointFirst x = Rich.make();
        x.meet();
        return x;
    }

    private static void toldWhereNoRoomIs() {
        Rich.Maker six = () -> {
            PointFirst x = Rich.make();
            for (int k = 2; k < 6; k++) {
                Due.due("3: the spear " + k, x.spear(k, k), k);
            }
            x.pass();
            return x;
        };
        Rich.stays("3: a seventh spear", -1, six, x -> x.spear(1, 1));
        Rich.Maker eight = () -> {
            PointFirst x = anew();
            for (int k = 3; k < 8; k++) {
                Due.due("4: the thrower " + k, x.thrower(k), k);
            }
            return x;
        };
        Rich.stays("4: a ninth thrower", -1, eight, x -> x.thrower(1));
        Rich.Maker sixty = () -> {
            PointFirst x = Rich.make();
            for (int n = 3; n <= 60; n++) {
                Due.due("25: the gust " + n, x.gust(n % 30), n);
            }
            return x;
        };
        Rich.stays("25: a sixty-first gust", -1, sixty, x -> x.gust(0));
        PointFirst x = new PointFirst();
        Due.put(x, 0, "gain 1;" + " ".repeat(374));
        Due.due("6: 381 and twenty more", x.feed(LEAST, MOST, 0, 0, 0), -1);
        Due.due("6: still 381", x.end(381), true);
        Due.due("6: not 382", x.end(382), false);
        Due.due("6: and as it was", x.text(3, 0), 1);
    }

    private static void texts() {
        for (int k : outside(0, 3)) {
            textStays("8: text(" + k + ", 0)", k, 0, "lift 1;");
        }
        for (int who : outside(0, 2)) {
            textStays("8: text(2, " + who + ")", 2, who, "pass;");
        }
        textStays("8: a fault in 0", 0, 0, "lift 9;dip 9;lift");
        textStays("8: a fault in 1", 1, 0, "wear 9;wear 1/0;");
        textStays("8: a fault in 3", 3, 0, "gain 9;cost 9;when");
        textStays("8: a fault in 2", 2, 0, "pass;pass;pass;pass;throw 100 at 1 with 0;");
    }

    /** The TAPE, empty then, and fault() are all that a text which can't be taken changes. */
    private static void textStays(String name, int k, int who, String text) {
        Rich.Maker told = () -> {
            PointFirst x = Rich.make();
            Due.tell(x, 9, 0, "");
            return x;
        };
        Rich.stays(name, -1, told, x -> {
            Due.put(x, 0, text);
            int answer = x.text(k, who);
            Due.due(name + ", its tape is empty", x.end(1), false);
            Due.tell(x, 9, 0, "");
            return answer;
        });
    }

    private static void done() {
        for (int v : outside(0, 99)) {
            Rich.stays("10: throwIt(" + v + ", 0, 0, 0)", -1, x -> x.throwIt(v, 0, 0, 0));
        }
        for (int v : outside(0, 60)) {
            Rich.stays("10: throwIt(0, " + v + ", 0, 0)", -1, x -> x.throwIt(0, v, 0, 0));
        }
        for (int v : outside(0, 1)) {
            Rich.stays("10: throwIt(0, 0, " + v + ", 0)", -1, x -> x.throwIt(0, 0, v, 0));
        }
        for (int v : outside(0, 9)) {
            Rich.stays("10: throwIt(0, 0, 0, " + v + ")", -1, x -> x.throwIt(0, 0, 0, v));
        }
        for (int n : outside(1, 48)) {
            Rich.stays("12: turnsGo(" + n + ")", -1, x -> x.turnsGo(n));
        }
        for (int n : outside(1, 100)) {
            Rich.stays("14: days(" + n + ")", 0, x -> Rich.bit(x.days(n)));
        }
        Rich.Maker late = () -> {
            PointFirst x = Rich.make();
            for (int n = 0; n < 99; n++) {
                x.days(100);
            }
            Due.due("14: DAY 9902", x.look(4), 9902);
            x.pass();
            return x;
        };
        Rich.stays("14: DAY would be 10000", 0, late, x -> Rich.bit(x.days(98)));
    }

    private static void doneByNobody() {
        Rich.Maker nobody = () -> {
            PointFirst x = new PointFirst();
            x.spear(1, 1);
            return x;
        };
        Rich.stays("10: nobody there", -1, nobody, x -> x.throwIt(1, 1, 0, 0));
        Rich.stays("11: nobody there", 0, nobody, x -> Rich.bit(x.pass()));
        Rich.stays("12: nobody there", -1, nobody, x -> x.turnsGo(1));
        Rich.stays("39: nobody there", 0, nobody, x -> Rich.bit(x.undo()));
    }

    private static void doneWhenOver() {
        Rich.Maker over = () -> {
            PointFirst x = Rich.make();
            x.turnsGo(48);
            Due.due("the MEET is over", x.look(2), 6);
            return x;
        };
        Rich.stays("4: the MEET is over", -1, over, x -> x.thrower(1));
        Rich.stays("10: the MEET is over", -1, over, x -> x.throwIt(1, 1, 0, 0));
        Rich.stays("11: the MEET is over", 0, over, x -> Rich.bit(x.pass()));
        Rich.stays("12: the MEET is over", -1, over, x -> x.turnsGo(1));
    }

    private static void doneByOneWhoseElbowIsGone() {
        Rich.Maker gone = () -> {
            PointFirst x = anew();
            x.set(6, 1, 1000);
            x.pass();
            return x;
        };
        Rich.stays("10: his WEAR is 1000", -1, gone, x -> x.throwIt(1, 1, 0, 0));
        Due.due("11: he can pass", gone.make().pass(), true);
        Due.due("12: his turn goes", gone.make().turnsGo(1), 0);
        PointFirst x = anew();
        x.set(6, 1, 999);
        x.pass();
        Due.due("10: his WEAR is 999", x.throwIt(1, 1, 0, 0) >= 0, true);
    }

    private static void nothingToGoBackTo() {
        Rich.Maker undone = () -> {
            PointFirst x = Rich.make();
            for (int n = 0; n < 5; n++) {
                Due.due("39: undone", x.undo(), true);
            }
            return x;
        };
        Rich.stays("39: nothing is left to undo", 0, undone, x -> Rich.bit(x.undo()));
        Rich.Maker bare = () -> {
            PointFirst x = Due.ready();
            x.throwIt(20, 30, 0, 0);
            return x;
        };
        Rich.stays("40: no image", 0, bare, x -> Rich.bit(x.image(false)));
    }

    private static void seen() {
        for (int k : outside(0, 2)) {
            for (int what = 0; what < 8; what++) {
                int w = what;
                Rich.stays("15: of(" + k + ", " + what + ")", -1, x -> x.of(k, w));
            }
            Rich.stays("31: after(" + k + ", 3)", -1, x -> x.after(k, 3));
            Rich.stays("32: would(" + k + ")", -1, x -> x.would(k));
            Rich.stays("35: place(" + k + ")", -1, x -> x.place(k));
        }
        for (int what : outside(0, 7)) {
            Rich.stays("15: of(0, " + what + ")", -1, x -> x.of(0, what));
        }
        for (int k : outside(0, 1)) {
            Rich.stays("16: at(" + k + ", 0)", -1, x -> x.at(k, 0));
            Rich.stays("16: at(" + k + ", 1)", -1, x -> x.at(k, 1));
            Rich.stays("16: at(0, " + k + ")", -1, x -> x.at(0, k));
            Rich.stays("36: record(" + k + ")", -1, x -> x.record(k));
        }
        for (int i : outside(0, Rich.make().look(5) - 1)) {
            for (int what = 0; what < 9; what++) {
                int w = what;
                Rich.stays("17: book(" + i + ", " + what + ")", -100, x -> x.book(i, w));
            }
        }
        for (int what : outside(0, 8)) {
            Rich.stays("17: book(0, " + what + ")", -100, x -> x.book(0, what));
        }
        for (int r : outside(0, 6)) {
            Rich.stays("31: after(0, " + r + ")", -1, x -> x.after(0, r));
        }
        for (int e : outside(0, 1000)) {
            Rich.stays("33: verdict(" + e + ")", -1, x -> x.verdict(e));
        }
        for (int what : new int[] {LEAST, -1, 12, 13, 14, 15, 16, 17, 18, 19, 25, MOST}) {
            Rich.stays("41: look(" + what + ")", -1000, x -> x.look(what));
        }
    }

    private static void flights() {
        for (int v : outside(0, 99)) {
            Rich.stays("18: force " + v, -10000, x -> x.fly(v, 0, 0, 0, 0, 0, 0));
        }
        for (int v : outside(0, 90)) {
            Rich.stays("18: angle " + v, -10000, x -> x.fly(0, v, 0, 0, 0, 0, 0));
        }
        for (int v : outside(-9, 9)) {
            Rich.stays("18: lie " + v, -10000, x -> x.fly(0, 0, v, 0, 0, 0, 0));
        }
        for (int v : outside(0, 1)) {
            Rich.stays("18: spear " + v, -10000, x -> x.fly(0, 0, 0, v, 0, 0, 0));
        }
        for (int v : outside(-29, 29)) {
            Rich.stays("18: wind " + v, -10000, x -> x.fly(0, 0, 0, 0, v, 0, 0));
            Rich.stays("18: side " + v, -10000, x -> x.fly(0, 0, 0, 0, 0, v, 0));
        }
        for (int v : outside(0, 6)) {
            Rich.stays("18: what " + v, -10000, x -> x.fly(0, 0, 0, 0, 0, 0, v));
        }
        for (int i : outside(0, Rich.make().look(5) - 1)) {
            Rich.stays("34: path(" + i + ", 0, 0)", -10000, x -> x.path(i, 0, 0));
        }
        for (int n : outside(0, 400)) {
            Rich.stays("34: path(0, " + n + ", 0)", -10000, x -> x.path(0, n, 0));
        }
        for (int what : outside(0, 3)) {
            Rich.stays("34: path(0, 0, " + what + ")", -10000, x -> x.path(0, 0, what));
        }
    }

    /** These would all answer another number with the one argument inside. */
    private static void angles() {
        for (int v : outside(0, 99)) {
            Rich.stays("19: force " + v, -1, x -> x.angle(v, 0, 0, 0));
            Rich.stays("20: force " + v, -1, x -> x.right(v, 0));
            Rich.stays("21: force " + v, -1, x -> x.winds(v, 20, 0, 0, 0));
            Rich.stays("26: force " + v, -1, x -> x.waitFor(v, 20, 0, 0));
            Rich.stays("28: force " + v, -1, x -> x.better(v, 20, 0, 1));
        }
        for (int v : outside(0, 60)) {
            Rich.stays("21: angle " + v, -1, x -> x.winds(50, v, 0, 0, 0));
            Rich.stays("26: angle " + v, -1, x -> x.waitFor(50, v, 0, 0));
            Rich.stays("28: angle " + v, -1, x -> x.better(50, v, 0, 1));
            Rich.stays("37: angle " + v, -1, x -> x.needed(v, 0, 0, 0));
        }
        for (int v : outside(0, 1)) {
            Rich.stays("19: spear " + v, -1, x -> x.angle(50, v, 0, 0));
            Rich.stays("21: spear " + v, -1, x -> x.winds(50, 20, v, 0, 0));
            Rich.stays("26: spear " + v, -1, x -> x.waitFor(50, 20, v, 0));
            Rich.stays("27: spear " + v, -1, x -> x.leastForce(v, 0, 0, 0));
            Rich.stays("28: spear " + v, -1, x -> x.better(50, 20, v, 1));
            Rich.stays("28: other " + v, -1, x -> x.better(50, 20, 0, v));
            Rich.stays("37: spear " + v, -1, x -> x.needed(20, v, 0, 0));
        }
        for (int v : outside(-29, 29)) {
            Rich.stays("19: wind " + v, -1, x -> x.angle(50, 0, v, 0));
            Rich.stays("20: wind " + v, -1, x -> x.right(50, v));
            Rich.stays("27: wind " + v, -1, x -> x.leastForce(0, v, 0, 0));
            Rich.stays("37: wind " + v, -1, x -> x.needed(20, 0, v, 0));
        }
        for (int v : outside(0, 3)) {
            Rich.stays("19: what " + v, -1, x -> x.angle(50, 0, 0, v));
        }
    }

    private static void windsAndLines() {
        for (int e : outside(0, 999)) {
            Rich.stays("21: e " + e, -1, x -> x.winds(50, 20, 0, 0, e));
        }
        for (int i : outside(0, Rich.make().look(5) - 1)) {
            Rich.stays("22: still(" + i + ")", -1, x -> x.still(i));
            Rich.stays("29: span(" + i + ", 0)", -1, x -> x.span(i, 0));
        }
        for (int what : outside(0, 1)) {
            Rich.stays("26: what " + what, -1, x -> x.waitFor(50, 20, 0, what));
            Rich.stays("27: what " + what, -1, x -> x.leastForce(0, 0, 0, what));
            Rich.stays("29: what " + what, -1, x -> x.span(0, what));
        }
    }

    private static void throwers() {
        for (int who : outside(0, 2)) {
            Rich.stays("23: thrower " + who, -1, x -> x.holds(who, 50, 20));
            Rich.stays("24: thrower " + who, -1, x -> x.chance(who, 0, 1, 20, 0, 0));
            Rich.stays("30: thrower " + who, -1, x -> x.train(who, 1, 1000, 0));
            Rich.stays("38: thrower " + who, -1, x -> x.rests(who, 1000));
        }
        for (int v : outside(0, 99)) {
            Rich.stays("23: force " + v, -1, x -> x.holds(0, v, 20));
        }
        for (int v : outside(0, 60)) {
            Rich.stays("23: angle " + v, -1, x -> x.holds(0, 50, v));
            Rich.stays("24: angle " + v, -1, x -> x.chance(0, 0, 1, v, 0, 0));
        }
        for (int r : outside(0, 6)) {
            Rich.stays("24: throws left " + r, -1, x -> x.chance(0, 0, r, 20, 0, 0));
        }
        for (int v : outside(0, 1)) {
            Rich.stays("24: spear " + v, -1, x -> x.chance(0, 0, 1, 20, v, 0));
            Rich.stays("24: what " + v, -1, x -> x.chance(0, 0, 1, 20, 0, v));
            Rich.stays("30: what " + v, -1, x -> x.train(0, 1, 1000, v));
        }
        for (int weeks : outside(1, 12)) {
            Rich.stays("30: weeks " + weeks, -1, x -> x.train(0, weeks, 1000, 0));
        }
        for (int v : outside(0, 1000)) {
            Rich.stays("30: WEAR " + v, -1, x -> x.train(0, 1, v, 0));
            Rich.stays("38: v " + v, -1, x -> x.rests(0, v));
        }
        Rich.stays("30: above that WEAR in any way", -1, x -> x.train(1, 1, 0, 0));
        Rich.stays("30: no hundreds then", -1, x -> x.train(1, 1, 0, 1));
        Rich.Maker unmended = () -> {
            PointFirst x = Rich.make();
            Due.tell(x, 1, 0, "wear 5;mend 0-5;");
            return x;
        };
        int wear = Rich.make().of(1, 1);
        Rich.stays("38: not by then", -1, unmended, x -> x.rests(1, wear - 1));
        Rich.stays("38: by now", 0, unmended, x -> x.rests(1, wear));
    }

    private static void noneIsGood() {
        Rich.Maker tail = () -> {
            PointFirst x = Rich.make();
            Due.tell(x, 0, 0, "");
            x.pass();
            return x;
        };
        for (int what = 0; what < 4; what++) {
            int w = what;
            Rich.stays("19: none is GOOD, what " + what, -1, tail, x -> x.angle(50, 0, 0, w));
        }
        Rich.stays("20: none is GOOD", -1, tail, x -> x.right(50, 0));
        for (int what = 0; what < 2; what++) {
            int w = what;
            Rich.stays("26: by none, what " + what, -1, tail, x -> x.waitFor(50, 20, 0, w));
            Rich.stays("27: none is enough, what " + what, -1, tail, x -> x.leastForce(0, 0, LEAST, w));
            Rich.stays("24: none is GOOD, what " + what, 0, tail, x -> x.chance(2, LEAST, 6, 20, 0, w));
        }
        Rich.stays("28: none is GOOD", 0, tail, x -> x.better(50, 20, 0, 1));
        Rich.stays("37: none is enough", -1, tail, x -> x.needed(20, 0, 0, LEAST));
        PointFirst x = Rich.make();
        Due.due("19: one is GOOD else", x.angle(50, 0, 0, 0) >= 0, true);
        Due.due("20: one is GOOD else", x.right(50, 0) >= 0, true);
        Due.due("26: by one else", x.waitFor(50, 20, 0, 0) >= 0, true);
        Due.due("27: one is enough else", x.leastForce(0, 0, LEAST, 0) >= 0, true);
        Due.due("37: one is enough else", x.needed(20, 0, 0, LEAST) >= 0, true);
    }

    /** Nothing of what is thought stays, and none of it draws. */
    private static void thoughts() {
        Rich.stays("18", x -> x.fly(99, 45, 3, 1, -9, 9, 0));
        for (int what = 0; what < 4; what++) {
            int w = what;
            Rich.stays("19, what " + what, x -> x.angle(70, 1, 3, w));
            Rich.stays("34, what " + what, x -> x.path(0, 5, w));
        }
        Rich.stays("20", x -> x.right(70, 3));
        Rich.stays("21", x -> x.winds(70, 30, 1, 2000, 500));
        Rich.stays("22", x -> x.still(0));
        Rich.stays("23", x -> x.holds(1, 99, 60));
        Rich.stays("31", x -> x.after(0, 6));
        Rich.stays("32", x -> x.would(0));
        Rich.stays("33", x -> x.verdict(333));
        Rich.stays("35", x -> x.place(0));
        Rich.stays("36", x -> x.record(0));
        Rich.stays("37", x -> x.needed(30, 0, 0, 500));
        Rich.stays("38", x -> x.rests(0, 3));
        for (int what = 0; what < 2; what++) {
            int w = what;
            Rich.stays("24, what " + what, x -> x.chance(2, 2000, 6, 30, 1, w));
            Rich.stays("26, what " + what, x -> x.waitFor(60, 30, 1, w));
            Rich.stays("27, what " + what, x -> x.leastForce(1, 3, 1500, w));
            Rich.stays("29, what " + what, x -> x.span(0, w));
            Rich.stays("30, what " + what, x -> x.train(0, 12, 300, w));
            Rich.stays("16, what " + what, x -> x.at(1, w));
            Rich.stays("9, what " + what, x -> x.fault(w));
        }
        Rich.stays("28", x -> x.better(60, 30, 0, 1));
        for (int what = 0; what < 9; what++) {
            int w = what;
            Rich.stays("15, what " + what, x -> x.of(0, w));
            Rich.stays("17, what " + what, x -> x.book(0, w));
        }
        for (int what = 0; what < 25; what++) {
            int w = what;
            Rich.stays("41, what " + what, x -> x.look(w));
        }
    }
}
