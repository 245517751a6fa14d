import java.util.Arrays;

/** An object with something of everything, all that can be seen of one, and calls that must leave it as it is. */
final class Rich {
    /** A call, a boolean counted 1 or 0. */
    interface Call {
        long on(PointFirst x);
    }

    /** The same object again at each call. */
    interface Maker {
        PointFirst make();
    }

    private static final int[] LOOKS = {0, 1, 2, 3, 4, 5, 6, 7, 8, 9, 10, 11, 20, 21, 22, 23, 24};

    private Rich() {
    }

    static long bit(boolean b) {
        return b ? 1 : 0;
    }

    /** Laws, plans, gusts, an image of another round, four turns by plans and one by hand, a fault, a tape. */
    static PointFirst make() {
        PointFirst x = new PointFirst();
        x.spear(3, 0);
        x.spear(5, 7);
        x.thrower(80);
        x.thrower(60);
        x.thrower(99);
        int[] told = {-3, 2, 1, 1, 6};
        for (int k = 0; k < told.length; k++) {
            x.set(k, 0, told[k]);
        }
        x.set(6, 0, 40);
        x.set(6, 1, 300);
        Due.tell(x, 0, 0, "dip 5;lift tip/7 when tick=0;drag 0-wind when wind<0;drift side/2 when tick<2;");
        Due.tell(x, 1, 0, "over 20+pace;wear force/9+pace+angle/30;mend 7+thrown;");
        Due.tell(x, 3, 0, "gain balls;cost balls*40-wearing/9;");
        Due.tell(x, 2, 0, "throw 50 at 30 with 1 pace 2 below 90;pass;throw 60 at 35 with 0;");
        Due.tell(x, 2, 1, "throw 40 at 20 with 0;");
        x.state(12345);
        x.gust(-5);
        x.gust(7);
        x.days(2);
        x.image(true);
        x.turnsGo(4);
        x.throwIt(55, 33, 0, 1);
        Due.tell(x, 0, 0, "lift 1/0;");
        Due.put(x, 0, "gain 1;cost 2;");
        return x;
    }

    /** Seeing all of it uses the object up: the tape is read, all is undone, the image is gone back to. */
    static long[] seen(PointFirst x) {
        Row row = new Row();
        shown(x, row);
        thought(x, row);
        int had = x.feed(0, 0, 0, 0, 0);
        row.add(had);
        x.end(had - 20);
        row.add(x.text(3, 0));
        row.add(x.fault(1));
        row.add(x.train(0, 2, 600, 0));
        for (int i = 0; i < 9; i++) {
            row.add(bit(x.undo()));
            row.add(x.look(6));
            row.add(x.look(5));
            row.add(x.look(3));
            row.add(x.of(x.look(3), 1));
        }
        row.add(bit(x.image(false)));
        shown(x, row);
        return row.all();
    }

    private static void shown(PointFirst x, Row row) {
        for (int what : LOOKS) {
            row.add(x.look(what));
        }
        for (int k = 0; k < 3; k++) {
            for (int what = 0; what < 8; what++) {
                row.add(x.of(k, what));
            }
        }
        for (int k = 0; k < 6; k++) {
            row.add(x.at(k, 0));
            row.add(x.at(k, 1));
        }
        for (int i = Math.max(0, x.look(5) - 4); i < x.look(5); i++) {
            for (int what = 0; what < 9; what++) {
                row.add(x.book(i, what));
            }
        }
        row.add(x.fault(0));
        row.add(x.fault(1));
    }

    private static void thought(PointFirst x, Row row) {
        for (int what = 0; what < 7; what++) {
            row.add(x.fly(40, 30, 0, 1, -3, 2, what));
        }
        row.add(x.holds(0, 50, 30));
        row.add(x.rests(1, 0));
        row.add(x.train(0, 2, 600, 0));
        row.add(x.waitFor(50, 30, 0, 0));
        row.add(x.waitFor(50, 30, 0, 1));
        for (int k = 0; k < 3; k++) {
            row.add(x.would(k));
        }
    }

    /** The call answers what is due, and nothing that can be seen is another because of it. */
    static void stays(String name, long want, Maker maker, Call call) {
        PointFirst x = maker.make();
        Due.due(name, call.on(x), want);
        same(name, seen(x), seen(maker.make()));
    }

    static void stays(String name, long want, Call call) {
        stays(name, want, Rich::make, call);
    }

    /** Whatever it answers. */
    static void stays(String name, Call call) {
        stays(name, call.on(make()), Rich::make, call);
    }

    private static void same(String name, long[] got, long[] want) {
        Due.due(name + ", how much is seen", got.length, want.length);
        for (int i = 0; i < got.length && i < want.length; i++) {
            Due.due(name + ", seen " + i, got[i], want[i]);
        }
    }

    private static final class Row {
        private final long[] v = new long[400];
        private int n;

        private void add(long one) {
            v[n] = one;
            n++;
        }

        private long[] all() {
            return Arrays.copyOf(v, n);
        }
    }
}
