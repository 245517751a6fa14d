/** Promises 15 to 17, 31, 35, 36 and 41: what is seen. */
final class SeenTest {
    private SeenTest() {
    }

    public static void main(String[] args) {
        of();
        rule();
        at();
        book();
        after();
        place();
        record();
        look();
        Due.finish();
    }

    /** By forces 20, 25, 30 and angle 30 it comes 459, 640, 924 cm far. */
    private static PointFirst four() {
        PointFirst x = Due.ready();
        x.thrower(80);
        x.thrower(70);
        x.thrower(60);
        x.throwIt(20, 30, 0, 0);
        x.throwIt(30, 30, 0, 0);
        x.throwIt(20, 30, 0, 0);
        x.pass();
        return x;
    }

    private static void of() {
        PointFirst x = four();
        int[] ranks = {2, 1, 2, 4};
        int[] needs = {466, 0, 466, 925};
        int[] bests = {459, 924, 459, 0};
        for (int k = 0; k < 4; k++) {
            Due.due("rank " + k, x.of(k, 4), ranks[k]);
            Due.due("needs " + k, x.of(k, 5), needs[k]);
            Due.due("best " + k, x.of(k, 2), bests[k]);
            Due.due("thrown " + k, x.of(k, 3), k == 3 ? 0 : 1);
            Due.due("power " + k, x.of(k, 0), k == 0 ? 99 : 90 - 10 * k);
            Due.due("wear " + k, x.of(k, 1), 0);
            Due.due("orders " + k, x.of(k, 6), 0);
        }
        x.throwIt(30, 30, 0, 0);
        Due.due("as great a one", x.of(0, 5), 1);
        Due.due("both need", x.of(1, 5), 1);
        Due.due("both first", x.of(0, 4) + x.of(1, 4), 2);
        Due.due("third then", x.of(2, 4), 3);
        Due.due("none such", x.of(4, 0), -1);
        Due.due("nor that", x.of(-1, 0), -1);
        Due.due("what 8", x.of(0, 8), -1);
        Due.due("what -1", x.of(0, -1), -1);
        PointFirst y = Due.ready();
        Due.due("alone", y.of(0, 5), 0);
        y.thrower(1);
        Due.due("two without a throw", y.of(0, 5), 1);
    }

    private static void rule() {
        PointFirst x = Due.ready();
        x.thrower(99);
        Due.tell(x, 0, 0, "");
        Due.due("flat", x.throwIt(10, 5, 0, 0), 2);
        int flat = x.book(0, 7);
        x.pass();
        Due.due("flat counts", x.of(0, 7), flat);
        Due.due("tail first", x.throwIt(30, 30, 0, 0), 3);
        Due.due("it counts not", x.of(0, 7), flat);
        x.pass();
        Due.tell(x, 0, 0, "dip 5;drift 9;");
        Due.due("aside", x.throwIt(30, 30, 0, 0), 4);
        Due.due("that neither", x.of(0, 7), flat);
        x.pass();
        Due.tell(x, 0, 0, Due.DIP);
        Due.law(x, 1, "over 1000;", 1);
        Due.due("over", x.throwIt(30, 30, 0, 0), 1);
        Due.due("nor over", x.of(0, 7), flat);
        Due.due("another's", x.throwIt(30, 30, 0, 0), 1);
        Due.law(x, 1, "", 0);
        Due.due("good", x.throwIt(20, 30, 0, 0), 0);
        Due.due("good counts", x.of(0, 7), 459);
        Due.due("the other has none", x.of(1, 7), 0);
        x.throwIt(30, 30, 0, 0);
        Due.due("his alone", x.of(0, 7), 459);
        Due.due("and the other's", x.of(1, 7), 924);
        x.meet();
        Due.due("the meet is not asked", x.of(0, 7), 459);
        x.days(1);
        Due.due("this day's alone", x.of(0, 7), 0);
    }

    private static void at() {
        PointFirst x = new PointFirst();
        Due.due("none", x.at(0, 0), -1);
        x.spear(3, 7);
        x.spear(0, 9);
        Due.due("soft", x.at(0, 0), 3);
        Due.due("tip", x.at(0, 1), 7);
        Due.due("soft 1", x.at(1, 0), 0);
        Due.due("tip 1", x.at(1, 1), 9);
        Due.due("what 2", x.at(0, 2), -1);
        Due.due("what -1", x.at(0, -1), -1);
        Due.due("spear 2", x.at(2, 0), -1);
        Due.due("spear -1", x.at(-1, 0), -1);
    }

    private static void book() {
        PointFirst x = four();
        int[][] want = {{0, 0, 0, 0, 20, 30, 0, 459, 0}, {0, 0, 1, 0, 30, 30, 0, 924, 0},
            {0, 0, 2, 0, 20, 30, 0, 459, 0}};
        for (int i = 0; i < 3; i++) {
            for (int k = 0; k < 9; k++) {
                Due.due("book " + i + " " + k, x.book(i, k), want[i][k]);
            }
        }
        Due.due("line 3", x.book(3, 0), -100);
        Due.due("line -1", x.book(-1, 0), -100);
        Due.due("what 9", x.book(0, 9), -100);
        Due.due("what -1", x.book(0, -1), -100);
        Due.due("far out", x.book(Integer.MAX_VALUE, 0), -100);
        x.undo();
        x.undo();
        Due.due("undone", x.book(2, 0), -100);
    }

    private static void after() {
        PointFirst x = Due.ready();
        x.thrower(99);
        x.throwIt(20, 30, 0, 0);
        x.throwIt(30, 30, 0, 0);
        x.throwIt(25, 30, 0, 0);
        x.pass();
        x.throwIt(20, 30, 0, 0);
        int[] want = {0, 459, 640, 640, 640, 640, 640};
        for (int r = 0; r <= 6; r++) {
            Due.due("after " + r, x.after(0, r), want[r]);
        }
        Due.due("the other's", x.after(1, 6), 924);
        Due.due("r 7", x.after(0, 7), -1);
        Due.due("r -1", x.after(0, -1), -1);
        Due.due("thrower 2", x.after(2, 1), -1);
        Due.due("thrower -1", x.after(-1, 1), -1);
        Due.tell(x, 0, 0, "");
        x.pass();
        Due.due("flat", x.throwIt(99, 5, 0, 0), 2);
        Due.due("good ones alone", x.after(0, 6), 640);
        x.days(1);
        Due.due("of this day alone", x.after(0, 6), 0);
    }

    private static void place() {
        Due.due("nobody", new PointFirst().place(0), -1);
        PointFirst x = four();
        int[] want = {1, 0, 2, 3};
        for (int i = 0; i < 4; i++) {
            Due.due("place " + i, x.place(i), want[i]);
        }
        Due.due("place 4", x.place(4), -1);
        Due.due("place -1", x.place(-1), -1);
        x.meet();
        for (int i = 0; i < 4; i++) {
            Due.due("by number " + i, x.place(i), i);
        }
    }

    private static void record() {
        PointFirst x = Due.ready();
        x.spear(1, 1);
        x.spear(2, 2);
        Due.due("without one", x.record(0), -1);
        x.throwIt(20, 30, 0, 0);
        Due.due("line 0", x.record(0), 0);
        x.throwIt(25, 30, 0, 0);
        x.throwIt(25, 30, 0, 0);
        x.throwIt(30, 30, 1, 0);
        Due.due("the first of several", x.record(0), 1);
        Due.due("of the other", x.record(1), 3);
        Due.due("none by it", x.record(2), -1);
        Due.due("none such", x.record(3), -1);
        Due.due("nor that", x.record(-1), -1);
        Due.law(x, 1, "over 1000;", 1);
        x.throwIt(99, 30, 0, 0);
        Due.due("over is none", x.record(0), 1);
        Due.law(x, 1, "", 0);
        Due.law(x, 0, "", 0);
        Due.due("flat", x.throwIt(99, 5, 0, 0), 2);
        Due.due("flat is none", x.record(0), 1);
        x.days(1);
        x.meet();
        Due.due("all days", x.record(0), 1);
        Due.law(x, 0, Due.DIP, 1);
        x.throwIt(99, 30, 0, 0);
        Due.due("farther", x.record(0), 6);
    }

    private static void look() {
        PointFirst x = Due.ready();
        x.thrower(5);
        x.spear(1, 2);
        x.spear(3, 4);
        Due.law(x, 1, "wear 1;wear 2;", 2);
        Due.law(x, 3, "gain 1;gain 2;gain 3;", 3);
        x.days(5);
        x.set(0, 0, -3);
        x.set(1, 0, 4);
        x.set(2, 0, 5);
        x.set(3, 0, 6);
        x.set(4, 0, 8);
        x.state(123);
        x.pass();
        x.pass();
        x.pass();
        for (int k = 0; k < 4; k++) {
            x.gust(0);
        }
        int[] want = {3, 2, 1, 1, 5, 0, 123, 1, 2, 3, 4, 3};
        for (int k = 0; k < 12; k++) {
            Due.due("look " + k, x.look(k), want[k]);
        }
        int[] told = {-3, 4, 5, 6, 8};
        for (int k = 0; k < 5; k++) {
            Due.due("look " + (20 + k), x.look(20 + k), told[k]);
        }
        for (int k : new int[] {-1, 12, 13, 19, 25, Integer.MAX_VALUE, Integer.MIN_VALUE}) {
            Due.due("look " + k, x.look(k), -1000);
        }
        Due.due("look draws nothing", x.look(6), 123);
    }
}
