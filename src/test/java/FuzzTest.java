import java.util.Random;

/** Long runs of calls, drawn by seeds, each answered by PointFirst and by Plain alike. */
final class FuzzTest {
    /** With a text's at the end still below the 512 that are promised. */
    private static final int CALLS = 485;
    private static int wrong;

    private final Random random;
    private final PointFirst x = new PointFirst();
    private final Plain y = new Plain();
    private final long seed;
    private final StringBuilder log = new StringBuilder();
    private int calls;

    private FuzzTest(long seed) {
        this.seed = seed;
        random = new Random(seed);
    }

    public static void main(String[] args) {
        int runs = args.length > 0 ? Integer.parseInt(args[0]) : 60;
        long from = args.length > 1 ? Long.parseLong(args[1]) : 1;
        for (long seed = from; seed < from + runs && wrong < 10; seed++) {
            new FuzzTest(seed).run();
        }
        if (wrong > 0) {
            System.exit(1);
        }
    }

    private boolean due(String call, long got, long want) {
        calls++;
        log.append(call).append(" = ").append(got).append('\n');
        if (got != want) {
            wrong++;
            System.out.println("seed " + seed + ", call " + calls + ": " + call + " answered " + got + ", due is "
                    + want);
            if (System.getProperty("log") != null) {
                System.out.println(log);
            }
            return false;
        }
        return true;
    }

    private static long bit(boolean b) {
        return b ? 1 : 0;
    }

    private int upTo(int most) {
        return random.nextInt(most + 1);
    }

    /** Mostly from low to high, now and then its ends or what is just outside. */
    private int in(int low, int high) {
        int way = random.nextInt(20);
        if (way == 0) {
            return random.nextInt(4) == 0 ? low - 1 : low;
        }
        if (way == 1) {
            return random.nextInt(4) == 0 ? high + 1 : high;
        }
        if (way == 2 && random.nextInt(20) == 0) {
            return random.nextInt();
        }
        return high < low ? low : low + random.nextInt(high - low + 1);
    }

    private int spear() {
        return in(0, y.look(0) - 1);
    }

    private int who() {
        return in(0, y.look(1) - 1);
    }

    private int line() {
        return in(0, y.look(5) - 1);
    }

    private void run() {
        int spears = 1 + upTo(2);
        boolean fine = true;
        for (int k = 0; k < spears && fine; k++) {
            fine = doSpear();
        }
        for (int k = upTo(4); k >= 0 && fine; k--) {
            fine = doThrower();
        }
        for (int k = 0; k < 4 && fine; k++) {
            fine = tell(k, k == 2 ? 0 : -1);
        }
        while (fine && calls < CALLS) {
            fine = step();
        }
    }

    private boolean doSpear() {
        int a = in(0, 9);
        int b = in(0, 9);
        return due("spear(" + a + ", " + b + ")", x.spear(a, b), y.spear(a, b));
    }

    private boolean doThrower() {
        int a = random.nextInt(2) == 0 ? in(0, 99) : in(50, 99);
        return due("thrower(" + a + ")", x.thrower(a), y.thrower(a));
    }

    // ---- texts

    private String oneOf(String... s) {
        return s[random.nextInt(s.length)];
    }

    private String blank() {
        int n = random.nextInt(30);
        return n == 0 ? "\n" : n == 1 ? "  " : " ";
    }

    private String unit(String[] asks) {
        return random.nextInt(2) == 0 ? oneOf(asks) : "" + (random.nextInt(6) == 0 ? upTo(9999) : upTo(20));
    }

    private String part(String[] asks) {
        String s = unit(asks);
        for (int k = random.nextInt(6) - 3; k > 0; k--) {
            s += random.nextInt(2) == 0 ? "*" + unit(asks) : "/" + (1 + upTo(60));
        }
        return s;
    }

    private String sum(String[] asks) {
        String s = part(asks);
        for (int k = random.nextInt(5) - 2; k > 0; k--) {
            s += oneOf("+", "-") + part(asks);
        }
        return s;
    }

    private String one(String[] asks, int deep) {
        int way = random.nextInt(8);
        if (way == 0 && deep < 10) {
            return "not" + blank() + one(asks, deep + 1);
        }
        if (way == 1 && deep < 10) {
            return "(" + any(asks, deep + 1) + ")";
        }
        return sum(asks) + oneOf("<", "=", ">") + sum(asks);
    }

    private String all(String[] asks, int deep) {
        String s = one(asks, deep);
        while (random.nextInt(4) == 0) {
            s += blank() + "and" + blank() + one(asks, deep);
        }
        return s;
    }

    private String any(String[] asks, int deep) {
        String s = all(asks, deep);
        while (random.nextInt(4) == 0) {
            s += blank() + "or" + blank() + all(asks, deep);
        }
        return s;
    }

    private String law(String[] words, String[] asks) {
        StringBuilder s = new StringBuilder();
        int lines = random.nextInt(40) == 0 ? 17 : random.nextInt(8);
        if (words == Plain.FLIGHT && random.nextInt(4) > 0) {
            s.append("dip ").append(1 + upTo(6)).append(';');
        }
        if (words == Plain.FLIGHT && random.nextInt(3) > 0) {
            s.append("lift tip when up>0;drag 0-wind/3 when wind<0;drift side/9;");
        }
        if (words == Plain.ARMS && random.nextInt(3) > 0) {
            s.append("wear ").append(upTo(90)).append("+force/4+thrown;mend ").append(upTo(50)).append("+round;");
            s.append("over ").append(upTo(200)).append("+pace*9;");
        }
        if (words == Plain.TRAINING && random.nextInt(3) > 0) {
            s.append("gain balls+").append(upTo(2)).append(";cost balls*").append(upTo(90)).append("-")
                    .append(upTo(90)).append(";");
        }
        for (int k = 0; k < lines; k++) {
            s.append(oneOf(words)).append(blank()).append(sum(asks));
            if (random.nextInt(3) > 0) {
                s.append(blank()).append("when").append(blank()).append(any(asks, 0));
            }
            s.append(';');
        }
        return s.toString();
    }

    private String plan() {
        StringBuilder s = new StringBuilder();
        for (int k = random.nextInt(40) == 0 ? 13 : random.nextInt(8); k > 0; k--) {
            if (random.nextInt(5) == 0) {
                s.append("pass;");
                continue;
            }
            s.append("throw ").append(40 + upTo(59)).append(" at ").append(upTo(60)).append(" with ")
                    .append(random.nextInt(Math.max(1, y.look(0))));
            if (random.nextInt(3) == 0) {
                s.append(" pace ").append(upTo(9));
            }
            if (random.nextInt(3) == 0) {
                s.append(" below ").append(upTo(60));
            }
            s.append(';');
        }
        return s.toString();
    }

    private String spoil(String s) {
        StringBuilder b = new StringBuilder(s);
        for (int k = random.nextInt(3); k >= 0; k--) {
            int i = random.nextInt(b.length() + 1);
            int way = random.nextInt(3);
            String bit = oneOf("0", "/0", "(", ")", "not ", " and ", " when ", ";", "x", "12345", "#", "=", "+", "lift ",
                    "power", "99", "\t", "\u00e9", "A", "throw ", "pass", "\u0000", "%", "61", "100", "-", "*");
            if (way == 0) {
                b.insert(i, bit);
            } else if (i < b.length()) {
                b.deleteCharAt(i);
                if (way == 1) {
                    b.insert(i, bit);
                }
            }
        }
        return b.toString();
    }

    private boolean tell(int k, int who) {
        String s = k == 0 ? law(Plain.FLIGHT, Plain.FLIGHT_ASKS) : k == 1 ? law(Plain.ARMS, Plain.ARMS_ASKS)
                : k == 3 ? law(Plain.TRAINING, Plain.TRAINING_ASKS) : plan();
        if (random.nextInt(5) == 0) {
            s = spoil(s);
        }
        s = s.length() > 390 ? s.substring(0, 390) : s;
        int had = y.tape.length();
        boolean fine = true;
        for (int i = 0; i < s.length() && fine; i += 20) {
            int[] v = new int[5];
            for (int j = 0; j < 20; j++) {
                v[j / 4] = v[j / 4] << 8 | (i + j < s.length() ? s.charAt(i + j) : ' ');
            }
            fine = due("feed(..)", x.feed(v[0], v[1], v[2], v[3], v[4]), y.feed(v[0], v[1], v[2], v[3], v[4]));
        }
        int n = had + s.length();
        fine = fine && due("end(" + n + ")", bit(x.end(n)), bit(y.end(n)));
        log.append("  <").append(y.tape).append(">\n");
        return fine && due("text(" + k + ", " + who + ")", x.text(k, who), y.text(k, who))
                && due("fault(0)", x.fault(0), y.fault(0)) && due("fault(1)", x.fault(1), y.fault(1));
    }

    // ---- calls

    private boolean step() {
        int way = random.nextInt(100);
        return way < 35 ? play() : way < 50 ? see() : way < 62 ? told() : way < 82 ? think() : thinkOfPeople();
    }

    private boolean told() {
        int a = in(0, 9);
        int b = in(0, 9);
        switch (random.nextInt(14)) {
            case 0:
                return doSpear();
            case 1:
                return doThrower();
            case 2:
                a = random.nextInt();
                return due("state(" + a + ")", x.state(a), y.state(a));
            case 3:
            case 4:
            case 5:
                return doSet();
            case 6:
                return tell(in(0, 3), who());
            case 7:
                return tell(random.nextInt(2), who());
            case 8:
                return tell(2, who());
            case 9:
                a = in(-1, 420);
                return due("end(" + a + ")", bit(x.end(a)), bit(y.end(a)));
            case 10:
                return due("feed()", x.feed(a, b, a, b, a), y.feed(a, b, a, b, a));
            case 11:
                a = random.nextInt(12) == 0 ? -100 : in(-29, 29);
                return due("gust(" + a + ")", x.gust(a), y.gust(a));
            case 12:
                boolean taken = random.nextInt(3) > 0;
                return due("image(" + taken + ")", bit(x.image(taken)), bit(y.image(taken)));
            default:
                a = in(1, random.nextInt(3) == 0 ? 100 : 3);
                return due("days(" + a + ")", bit(x.days(a)), bit(y.days(a)));
        }
    }

    private boolean doSet() {
        int what = in(0, 6);
        int who = who();
        int v = what < 2 ? in(-20, 20) : what < 4 ? in(0, 9) : what == 4 ? in(1, 20) : what == 5 ? in(0, 99) : in(0, 1000);
        return due("set(" + what + ", " + who + ", " + v + ")", bit(x.set(what, who, v)), bit(y.set(what, who, v)));
    }

    private boolean play() {
        int way = random.nextInt(12);
        if (way < 4) {
            int f = in(0, 99);
            int a = in(0, 60);
            int k = spear();
            int p = in(0, 9);
            return due("throwIt(" + f + ", " + a + ", " + k + ", " + p + ")", x.throwIt(f, a, k, p),
                    y.throwIt(f, a, k, p));
        }
        if (way == 4) {
            return due("pass()", bit(x.pass()), bit(y.pass()));
        }
        if (way < 8) {
            int n = in(1, random.nextInt(4) == 0 ? 48 : 6);
            return due("turnsGo(" + n + ")", x.turnsGo(n), y.turnsGo(n));
        }
        if (way < 11) {
            return due("undo()", bit(x.undo()), bit(y.undo()));
        }
        if (random.nextInt(3) > 0 && y.look(2) < 6) {
            return true;
        }
        x.meet();
        y.meet();
        return due("meet()", 0, 0);
    }

    private boolean see() {
        int a = who();
        int b = in(0, 8);
        switch (random.nextInt(8)) {
            case 0:
            case 1:
                return due("of(" + a + ", " + b + ")", x.of(a, b), y.of(a, b));
            case 2:
                a = spear();
                return due("at(" + a + ", " + b + ")", x.at(a, b % 3), y.at(a, b % 3));
            case 3:
                a = line();
                return due("book(" + a + ", " + b + ")", x.book(a, b), y.book(a, b));
            case 4:
                return due("place(" + a + ")", x.place(a), y.place(a));
            case 5:
                a = spear();
                return due("record(" + a + ")", x.record(a), y.record(a));
            case 6:
                b = in(0, 6);
                return due("after(" + a + ", " + b + ")", x.after(a, b), y.after(a, b));
            default:
                a = in(0, 25);
                return due("look(" + a + ")", x.look(a), y.look(a));
        }
    }

    private boolean think() {
        int f = in(0, 99);
        int a = in(0, 60);
        int k = spear();
        int w = in(-29, 29);
        int what = in(0, 1);
        int mark = random.nextInt(10) == 0 ? in(-5, 100000) : upTo(5000);
        String fak = "(" + f + ", " + a + ", " + k;
        switch (random.nextInt(13)) {
            case 0:
            case 1:
            case 2:
                int l = in(-9, 9);
                int s = in(-29, 29);
                what = in(0, 6);
                a = in(0, 90);
                return due("fly(" + f + ", " + a + ", " + l + ", " + k + ", " + w + ", " + s + ", " + what + ")",
                        x.fly(f, a, l, k, w, s, what), y.fly(f, a, l, k, w, s, what));
            case 3:
                what = in(0, 3);
                return due("angle(" + f + ", " + k + ", " + w + ", " + what + ")", x.angle(f, k, w, what),
                        y.angle(f, k, w, what));
            case 4:
                return due("right(" + f + ", " + w + ")", x.right(f, w), y.right(f, w));
            case 5:
                int e = in(0, 999);
                int far = random.nextInt(3) == 0 ? mark : y.fly(f, a, 0, k, 0, 0, 0);
                return due("winds" + fak + ", " + far + ", " + e + ")", x.winds(f, a, k, far, e),
                        y.winds(f, a, k, far, e));
            case 6:
                int n = line();
                return due("still(" + n + ")", x.still(n), y.still(n));
            case 7:
                return due("waitFor" + fak + ", " + what + ")", x.waitFor(f, a, k, what), y.waitFor(f, a, k, what));
            case 8:
                if (random.nextInt(4) > 0) {
                    return true;
                }
                return due("leastForce(" + k + ", " + w + ", " + mark + ", " + what + ")",
                        x.leastForce(k, w, mark, what), y.leastForce(k, w, mark, what));
            case 9:
                int o = spear();
                return due("better" + fak + ", " + o + ")", x.better(f, a, k, o), y.better(f, a, k, o));
            case 10:
                n = line();
                return due("span(" + n + ", " + what + ")", x.span(n, what), y.span(n, what));
            case 11:
                n = line();
                int t = random.nextInt(3) == 0 ? in(0, 400) : in(0, 50);
                what = in(0, 3);
                return due("path(" + n + ", " + t + ", " + what + ")", x.path(n, t, what), y.path(n, t, what));
            default:
                return due("needed(" + a + ", " + k + ", " + w + ", " + mark + ")", x.needed(a, k, w, mark),
                        y.needed(a, k, w, mark));
        }
    }

    private boolean thinkOfPeople() {
        int f = in(0, 99);
        int a = in(0, 60);
        int k = spear();
        int who = who();
        int what = in(0, 1);
        int v = in(0, 1000);
        switch (random.nextInt(7)) {
            case 0:
                return due("holds(" + who + ", " + f + ", " + a + ")", x.holds(who, f, a), y.holds(who, f, a));
            case 1:
            case 2:
                int r = random.nextInt(40) == 0 ? in(0, 6) : in(0, 3);
                int mark = random.nextInt(10) == 0 ? in(-5, 100000) : upTo(4500);
                return due("chance(" + who + ", " + mark + ", " + r + ", " + a + ", " + k + ", " + what + ")",
                        x.chance(who, mark, r, a, k, what), y.chance(who, mark, r, a, k, what));
            case 3:
                int weeks = random.nextInt(10) == 0 ? in(1, 12) : in(1, 4);
                return due("train(" + who + ", " + weeks + ", " + v + ", " + what + ")", x.train(who, weeks, v, what),
                        y.train(who, weeks, v, what));
            case 4:
                return due("would(" + who + ")", x.would(who), y.would(who));
            case 5:
                return due("verdict(" + v + ")", x.verdict(v), y.verdict(v));
            default:
                return due("rests(" + who + ", " + v + ")", x.rests(who, v), y.rests(who, v));
        }
    }
}
