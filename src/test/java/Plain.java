import java.util.ArrayList;
import java.util.HashMap;
import java.util.HashSet;
import java.util.List;
import java.util.Map;
import java.util.Set;

/**
 * The document once more, in its plainest form: trees for the laws, whole copies for undo and image,
 * every way tried in thought. Fuzz compares PointFirst with it.
 */
final class Plain {
    static final int NONE = -1;

    // ---- texts

    interface Sum {
        int of(Map<String, Integer> asked);
    }

    interface Cond {
        boolean of(Map<String, Integer> asked);
    }

    static final class Line {
        String word;
        Sum sum;
        Cond when;
    }

    static final class Order {
        boolean pass;
        int force;
        int angle;
        int spear;
        int pace;
        Integer below;
    }

    static final class Fault extends RuntimeException {
        final int which;
        final int place;

        Fault(int which, int place) {
            super(null, null, false, false);
            this.which = which;
            this.place = place;
        }
    }

    static final class Token {
        String is;
        int place;

        boolean number() {
            return is.matches("[0-9]{1,4}");
        }
    }

    static final String[] FLIGHT = {"lift", "drag", "dip", "drift"};
    static final String[] FLIGHT_ASKS = {"fore", "up", "height", "pitch", "wind", "side", "soft", "tip", "tick"};
    static final String[] ARMS = {"over", "wear", "mend"};
    static final String[] ARMS_ASKS = {"force", "pace", "angle", "wearing", "power", "thrown", "best", "round"};
    static final String[] TRAINING = {"gain", "cost"};
    static final String[] TRAINING_ASKS = {"balls", "power", "wearing", "week"};

    static final class Parser {
        final String text;
        final List<Token> tokens = new ArrayList<>();
        int i;
        Set<String> words;
        Set<String> asks;
        int open;

        Parser(String text) {
            this.text = text;
            java.util.regex.Matcher m = java.util.regex.Pattern
                    .compile("[A-Za-z]+|[0-9]+|[^ \\n]", java.util.regex.Pattern.DOTALL).matcher(text);
            while (m.find()) {
                Token t = new Token();
                t.is = m.group();
                t.place = m.start();
                tokens.add(t);
            }
            Token end = new Token();
            end.is = "";
            end.place = text.length();
            tokens.add(end);
        }

        Token now() {
            return tokens.get(i);
        }

        boolean is(String s) {
            return now().is.equals(s);
        }

        Fault bad() {
            return new Fault(1, now().place);
        }

        void must(String s) {
            if (!is(s)) {
                throw bad();
            }
            i++;
        }

        List<Line> law(String[] itsWords, String[] itsAsks) {
            words = Set.of(itsWords);
            asks = Set.of(itsAsks);
            List<Line> lines = new ArrayList<>();
            while (!is("")) {
                Line line = new Line();
                if (!words.contains(now().is)) {
                    throw bad();
                }
                if (lines.size() == 16) {
                    throw new Fault(3, now().place);
                }
                line.word = now().is;
                i++;
                line.sum = e();
                if (is("when")) {
                    i++;
                    open = 0;
                    line.when = b();
                }
                must(";");
                lines.add(line);
            }
            return lines;
        }

        Cond b() {
            Cond left = a();
            while (is("or")) {
                i++;
                Cond l = left;
                Cond r = a();
                left = m -> l.of(m) || r.of(m);
            }
            return left;
        }

        Cond a() {
            Cond left = c();
            while (is("and")) {
                i++;
                Cond l = left;
                Cond r = c();
                left = m -> l.of(m) && r.of(m);
            }
            return left;
        }

        Cond c() {
            if (is("not") || is("(")) {
                if (open == 8) {
                    throw new Fault(3, now().place);
                }
                boolean not = is("not");
                i++;
                open++;
                Cond inner = not ? c() : b();
                if (!not) {
                    must(")");
                }
                open--;
                return not ? m -> !inner.of(m) : inner;
            }
            Sum l = e();
            String op = now().is;
            if (!op.equals("<") && !op.equals("=") && !op.equals(">")) {
                throw bad();
            }
            i++;
            Sum r = e();
            return m -> op.equals("<") ? l.of(m) < r.of(m) : op.equals("=") ? l.of(m) == r.of(m) : l.of(m) > r.of(m);
        }

        Sum e() {
            Sum left = t();
            while (is("+") || is("-")) {
                boolean plus = is("+");
                i++;
                Sum l = left;
                Sum r = t();
                left = m -> plus ? l.of(m) + r.of(m) : l.of(m) - r.of(m);
            }
            return left;
        }

        Sum t() {
            Sum left = u();
            while (is("*") || is("/")) {
                boolean times = is("*");
                i++;
                Sum l = left;
                if (times) {
                    Sum r = u();
                    left = m -> l.of(m) * r.of(m);
                } else {
                    if (!now().number()) {
                        throw bad();
                    }
                    int by = Integer.parseInt(now().is);
                    if (by == 0) {
                        throw new Fault(2, now().place);
                    }
                    i++;
                    left = m -> l.of(m) / by;
                }
            }
            return left;
        }

        Sum u() {
            if (now().number()) {
                int v = Integer.parseInt(now().is);
                i++;
                return m -> v;
            }
            if (asks.contains(now().is)) {
                String name = now().is;
                i++;
                return m -> m.get(name);
            }
            throw bad();
        }

        int number(int most) {
            if (!now().number()) {
                throw bad();
            }
            int v = Integer.parseInt(now().is);
            if (v > most) {
                throw new Fault(2, now().place);
            }
            i++;
            return v;
        }

        List<Order> plan(int spears) {
            List<Order> orders = new ArrayList<>();
            while (!is("")) {
                if (!is("throw") && !is("pass")) {
                    throw bad();
                }
                if (orders.size() == 12) {
                    throw new Fault(3, now().place);
                }
                Order o = new Order();
                o.pass = is("pass");
                i++;
                if (!o.pass) {
                    o.force = number(99);
                    must("at");
                    o.angle = number(60);
                    must("with");
                    o.spear = number(spears - 1);
                    if (is("pace")) {
                        i++;
                        o.pace = number(9);
                    }
                    if (is("below")) {
                        i++;
                        o.below = number(9999);
                    }
                }
                must(";");
                orders.add(o);
            }
            return orders;
        }
    }

    static int tell(List<Line> law, String word, Map<String, Integer> asked) {
        for (Line line : law) {
            if (line.word.equals(word) && (line.when == null || line.when.of(asked))) {
                return line.sum.of(asked);
            }
        }
        return 0;
    }

    // ---- what there is

    static final class Person implements Cloneable {
        int power;
        int wear;
        int best;
        int thrown;
        List<Order> plan = List.of();
        int next;

        Person copy() {
            try {
                return (Person) clone();
            } catch (CloneNotSupportedException e) {
                throw new IllegalStateException(e);
            }
        }
    }

    static final class State {
        int draws;
        List<int[]> spears = new ArrayList<>();
        List<Person> people = new ArrayList<>();
        int wind;
        int side;
        int gusty;
        int slip;
        int sector = 7;
        int day;
        int round;
        int turn;
        List<int[]> book = new ArrayList<>();
        List<Integer> gusts = new ArrayList<>();
        List<Line> flight = List.of();
        List<Line> arms = List.of();
        List<Line> training = List.of();

        State copy() {
            State s = new State();
            s.draws = draws;
            s.spears = new ArrayList<>(spears);
            for (Person p : people) {
                s.people.add(p.copy());
            }
            s.wind = wind;
            s.side = side;
            s.gusty = gusty;
            s.slip = slip;
            s.sector = sector;
            s.day = day;
            s.round = round;
            s.turn = turn;
            s.book = new ArrayList<>(book);
            s.gusts = new ArrayList<>(gusts);
            s.flight = flight;
            s.arms = arms;
            s.training = training;
            return s;
        }
    }

    State s = new State();
    State image;
    List<State> past = new ArrayList<>();
    String tape = "";
    int fault;
    int faultPlace = NONE;

    private static boolean in(int v, int low, int high) {
        return low <= v && v <= high;
    }

    private static int held(int v, int low, int high) {
        return Math.max(low, Math.min(high, v));
    }

    private Person person(int k) {
        return in(k, 0, s.people.size() - 1) ? s.people.get(k) : null;
    }

    private boolean spearIs(int k) {
        return in(k, 0, s.spears.size() - 1);
    }

    private int draw(int m) {
        s.draws = s.draws * 1664525 + 1013904223;
        return (s.draws >>> 8) % m;
    }

    // ---- told

    int state(int v) {
        int was = s.draws;
        s.draws = v;
        past.clear();
        return was;
    }

    int spear(int soft, int tip) {
        if (!in(soft, 0, 9) || !in(tip, 0, 9) || s.spears.size() == 6) {
            return NONE;
        }
        s.spears.add(new int[] {soft, tip});
        past.clear();
        return s.spears.size() - 1;
    }

    int thrower(int power) {
        if (!in(power, 0, 99) || s.people.size() == 8 || s.round != 0 || s.turn != 0) {
            return NONE;
        }
        Person p = new Person();
        p.power = power;
        s.people.add(p);
        past.clear();
        return s.people.size() - 1;
    }

    boolean set(int what, int who, int v) {
        Person p = person(who);
        if (what == 0 && in(v, -20, 20)) {
            s.wind = v;
        } else if (what == 1 && in(v, -20, 20)) {
            s.side = v;
        } else if (what == 2 && in(v, 0, 9)) {
            s.gusty = v;
        } else if (what == 3 && in(v, 0, 9)) {
            s.slip = v;
        } else if (what == 4 && in(v, 1, 20)) {
            s.sector = v;
        } else if (what == 5 && p != null && in(v, 0, 99)) {
            p.power = v;
        } else if (what == 6 && p != null && in(v, 0, 1000)) {
            p.wear = v;
        } else {
            return false;
        }
        past.clear();
        return true;
    }

    int feed(int a, int b, int c, int d, int e) {
        if (tape.length() + 20 > 400) {
            return NONE;
        }
        StringBuilder t = new StringBuilder(tape);
        for (int v : new int[] {a, b, c, d, e}) {
            t.append((char) (v >>> 24)).append((char) (v >>> 16 & 255)).append((char) (v >>> 8 & 255))
                    .append((char) (v & 255));
        }
        tape = t.toString();
        return tape.length();
    }

    boolean end(int n) {
        if (!in(n, 0, tape.length())) {
            return false;
        }
        tape = tape.substring(0, n);
        return true;
    }

    int text(int k, int thrower) {
        String text = tape;
        tape = "";
        fault = 0;
        faultPlace = NONE;
        if (!in(k, 0, 3) || (k == 2 && person(thrower) == null)) {
            return NONE;
        }
        try {
            Parser parser = new Parser(text);
            if (k == 2) {
                List<Order> plan = parser.plan(s.spears.size());
                person(thrower).plan = plan;
                person(thrower).next = 0;
                past.clear();
                return plan.size();
            }
            List<Line> law = k == 0 ? parser.law(FLIGHT, FLIGHT_ASKS)
                    : k == 1 ? parser.law(ARMS, ARMS_ASKS) : parser.law(TRAINING, TRAINING_ASKS);
            if (k == 0) {
                s.flight = law;
            } else if (k == 1) {
                s.arms = law;
            } else {
                s.training = law;
            }
            return law.size();
        } catch (Fault f) {
            fault = f.which;
            faultPlace = f.place;
            return NONE;
        }
    }

    int fault(int what) {
        return what == 0 ? fault : what == 1 ? faultPlace : NONE;
    }

    int gust(int wind) {
        if (wind == -100) {
            s.gusts.clear();
            return 0;
        }
        if (!in(wind, -29, 29) || s.gusts.size() == 60) {
            return NONE;
        }
        s.gusts.add(wind);
        return s.gusts.size();
    }

    // ---- flights and arms

    static final class Air {
        int fore;
        int up;
        int height = 180;
        int far;
        int off;
        int out;
        int pitch;
        int ticks;
        int top = 180;
        boolean good;

        int landed() {
            return pitch < 0 ? 0 : pitch <= 9 ? 1 : 2;
        }
    }

    private static int s(int a) {
        return Math.floorDiv(4000 * a * (180 - a), 40500 - a * (180 - a));
    }

    private Air flight(int f, int a, int l, int spear, int w, int side, int most) {
        Air x = new Air();
        x.fore = Math.floorDiv(3 * f * s(90 - a), 1000);
        x.up = Math.floorDiv(3 * f * s(a), 1000);
        x.pitch = a + l;
        while (x.height > 0 && x.ticks < most) {
            Map<String, Integer> m = new HashMap<>();
            m.put("fore", x.fore);
            m.put("up", x.up);
            m.put("height", x.height);
            m.put("pitch", x.pitch);
            m.put("wind", w);
            m.put("side", side);
            m.put("soft", s.spears.get(spear)[0]);
            m.put("tip", s.spears.get(spear)[1]);
            m.put("tick", x.ticks);
            x.up += held(tell(s.flight, "lift", m), -20, 20);
            x.fore = Math.max(0, x.fore - held(tell(s.flight, "drag", m), 0, 50));
            x.pitch -= held(tell(s.flight, "dip", m), -9, 9);
            x.out += held(tell(s.flight, "drift", m), -9, 9);
            x.up -= 10;
            x.far += x.fore;
            x.height += x.up;
            x.off += x.out;
            x.ticks++;
            x.top = Math.max(x.top, x.height);
        }
        x.good = x.landed() == 0 && Math.abs(x.off) * s.sector <= x.far;
        return x;
    }

    private Air flight(int f, int a, int spear, int w) {
        return flight(f, a, 0, spear, w, s.side, 400);
    }

    private Map<String, Integer> arms(Person p, int f, int pace, int a, int round) {
        Map<String, Integer> m = new HashMap<>();
        m.put("force", f);
        m.put("pace", pace);
        m.put("angle", a);
        m.put("wearing", p.wear);
        m.put("power", p.power);
        m.put("thrown", p.thrown);
        m.put("best", p.best / 100);
        m.put("round", round);
        return m;
    }

    private int ask(String word, Map<String, Integer> m) {
        return held(tell(s.arms, word, m), 0, 1000);
    }

    // ---- done

    private Person turn() {
        return s.round == 6 ? null : person(s.turn);
    }

    private void keep() {
        past.add(s.copy());
        if (past.size() > 8) {
            past.remove(0);
        }
    }

    private void next() {
        s.turn++;
        if (s.turn == s.people.size()) {
            s.turn = 0;
            s.round++;
        }
    }

    private int hurl(int f0, int a, int spear, int p) {
        Person t = turn();
        int f = Math.min(f0 + p, t.power);
        Map<String, Integer> m = arms(t, f, p, a, s.round);
        int over = ask("over", m);
        boolean isOver = false;
        if (over > 0) {
            isOver = draw(1000) < over;
        }
        int angle = a;
        if (s.slip > 0) {
            angle = held(a + draw(2 * s.slip + 1) - s.slip, 0, 90);
        }
        int wind = s.wind;
        if (s.gusty > 0) {
            wind = s.wind + draw(2 * s.gusty + 1) - s.gusty;
        }
        Air x = flight(f, angle, spear, wind);
        t.wear = Math.min(1000, t.wear + ask("wear", m));
        t.thrown++;
        int how = isOver ? 1 : x.landed() == 1 ? 2 : x.landed() == 2 ? 3 : x.good ? 0 : 4;
        if (how == 0) {
            t.best = Math.max(t.best, x.far);
        }
        if (s.book.size() < 100) {
            s.book.add(new int[] {s.day, s.round, s.turn, spear, f, angle, wind, x.far, how});
        }
        next();
        return how;
    }

    int throwIt(int force, int angle, int spear, int pace) {
        if (turn() == null || turn().wear == 1000 || !in(force, 0, 99) || !in(angle, 0, 60) || !spearIs(spear)
                || !in(pace, 0, 9)) {
            return NONE;
        }
        keep();
        return hurl(force, angle, spear, pace);
    }

    boolean pass() {
        if (turn() == null) {
            return false;
        }
        keep();
        next();
        return true;
    }

    int turnsGo(int n) {
        if (!in(n, 1, 48) || turn() == null) {
            return NONE;
        }
        int thrown = 0;
        while (n > 0 && turn() != null) {
            n--;
            keep();
            Person t = turn();
            if (t.next == t.plan.size()) {
                next();
                continue;
            }
            Order o = t.plan.get(t.next);
            t.next++;
            if (o.pass || t.wear == 1000 || (o.below != null && t.best >= 100 * o.below)) {
                next();
            } else {
                hurl(o.force, o.angle, o.spear, o.pace);
                thrown++;
            }
        }
        return thrown;
    }

    void meet() {
        s.round = 0;
        s.turn = 0;
        for (Person p : s.people) {
            p.thrown = 0;
            p.best = 0;
            p.next = 0;
        }
        past.clear();
    }

    boolean days(int n) {
        if (!in(n, 1, 100) || s.day + n > 9999) {
            return false;
        }
        while (n-- > 0) {
            for (Person p : s.people) {
                p.wear = Math.max(0, p.wear - ask("mend", arms(p, 0, 0, 0, s.round)));
            }
            s.day++;
        }
        past.clear();
        return true;
    }

    boolean undo() {
        if (past.isEmpty()) {
            return false;
        }
        State was = past.remove(past.size() - 1);
        was.flight = s.flight;
        was.arms = s.arms;
        was.training = s.training;
        was.gusts = s.gusts;
        s = was;
        return true;
    }

    boolean image(boolean taken) {
        if (taken) {
            image = s.copy();
            return true;
        }
        if (image == null) {
            return false;
        }
        s = image.copy();
        past.clear();
        return true;
    }

    // ---- seen

    int of(int thrower, int what) {
        Person p = person(thrower);
        if (p == null) {
            return NONE;
        }
        int others = -1;
        int above = 0;
        for (Person q : s.people) {
            if (q != p) {
                others = Math.max(others, q.best);
                above += q.best > p.best ? 1 : 0;
            }
        }
        int rule = 0;
        for (int[] line : s.book) {
            if (line[0] == s.day && line[2] == thrower && (line[8] == 0 || line[8] == 2)) {
                rule = Math.max(rule, line[7]);
            }
        }
        int needs = p.best > others ? 0 : others + 1 - p.best;
        int[] all = {p.power, p.wear, p.best, p.thrown, above + 1, needs, p.plan.size() - p.next, rule};
        return in(what, 0, 7) ? all[what] : NONE;
    }

    int at(int spear, int what) {
        return spearIs(spear) && in(what, 0, 1) ? s.spears.get(spear)[what] : NONE;
    }

    int book(int i, int what) {
        return in(i, 0, s.book.size() - 1) && in(what, 0, 8) ? s.book.get(i)[what] : -100;
    }

    int place(int i) {
        for (int k = 0; k < s.people.size(); k++) {
            int ahead = 0;
            for (int j = 0; j < s.people.size(); j++) {
                int more = s.people.get(j).best - s.people.get(k).best;
                ahead += more > 0 || (more == 0 && j < k) ? 1 : 0;
            }
            if (ahead == i) {
                return k;
            }
        }
        return NONE;
    }

    int record(int spear) {
        int most = -1;
        int found = NONE;
        for (int i = 0; i < s.book.size(); i++) {
            int[] line = s.book.get(i);
            if (line[8] == 0 && line[3] == spear && line[7] > most) {
                most = line[7];
                found = i;
            }
        }
        return found;
    }

    int after(int thrower, int r) {
        if (person(thrower) == null || !in(r, 0, 6)) {
            return NONE;
        }
        int most = 0;
        for (int[] line : s.book) {
            if (line[0] == s.day && line[1] < r && line[2] == thrower && line[8] == 0) {
                most = Math.max(most, line[7]);
            }
        }
        return most;
    }

    int look(int what) {
        int[] low = {s.spears.size(), s.people.size(), s.round, s.turn, s.day, s.book.size(), s.draws,
            s.flight.size(), s.arms.size(), past.size(), s.gusts.size(), s.training.size()};
        int[] high = {s.wind, s.side, s.gusty, s.slip, s.sector};
        return in(what, 0, 11) ? low[what] : in(what, 20, 24) ? high[what - 20] : -1000;
    }

    // ---- thought

    int fly(int force, int angle, int lie, int spear, int wind, int side, int what) {
        if (!in(force, 0, 99) || !in(angle, 0, 90) || !in(lie, -9, 9) || !spearIs(spear) || !in(wind, -29, 29)
                || !in(side, -29, 29) || !in(what, 0, 6)) {
            return -10000;
        }
        Air x = flight(force, angle, lie, spear, wind, side, 400);
        return new int[] {x.far, x.landed(), x.off, x.ticks, x.top, x.good ? 1 : 0, x.pitch}[what];
    }

    int angle(int force, int spear, int wind, int what) {
        if (!in(force, 0, 99) || !spearIs(spear) || !in(wind, -29, 29) || !in(what, 0, 3)) {
            return NONE;
        }
        int slip = what < 2 ? 0 : s.slip;
        int found = NONE;
        int most = NONE;
        Map<Integer, Air> airs = new HashMap<>();
        for (int a = 0; a <= 60; a++) {
            int least = Integer.MAX_VALUE;
            for (int d = -slip; d <= slip; d++) {
                Air x = airs.computeIfAbsent(held(a + d, 0, 90), at -> flight(force, at, spear, wind));
                least = Math.min(least, x.good ? x.far : NONE);
            }
            if (least > most) {
                most = least;
                found = a;
            }
        }
        return what == 0 || what == 2 ? found : most;
    }

    int right(int force, int wind) {
        int found = NONE;
        int most = NONE;
        for (int k = 0; k < s.spears.size(); k++) {
            int far = angle(force, k, wind, 1);
            if (far > most) {
                most = far;
                found = k;
            }
        }
        return found;
    }

    long winds(int force, int angle, int spear, int far, int e) {
        if (!in(force, 0, 99) || !in(angle, 0, 60) || !spearIs(spear) || !in(e, 0, 999)) {
            return NONE;
        }
        long set = 0;
        for (int w = -20; w <= 20; w++) {
            if (Math.abs((long) flight(force, angle, spear, w).far - far) <= e) {
                set += 1L << (w + 20);
            }
        }
        return set;
    }

    int still(int line) {
        if (!in(line, 0, s.book.size() - 1)) {
            return NONE;
        }
        int[] b = s.book.get(line);
        return flight(b[4], b[5], b[3], 0).far;
    }

    int holds(int thrower, int force, int angle) {
        Person p = person(thrower);
        if (p == null || !in(force, 0, 99) || !in(angle, 0, 60)) {
            return NONE;
        }
        Person q = p.copy();
        int n = 0;
        while (q.wear < 1000 && n < 60) {
            q.wear = Math.min(1000, q.wear + ask("wear", arms(q, Math.min(force, q.power), 0, angle, s.round)));
            q.thrown++;
            n++;
        }
        return n;
    }

    private int[] chance(Person p, int mark, int left, int angle, int spear, boolean[] good) {
        int most = 0;
        int by = 0;
        if (left == 0 || p.wear == 1000) {
            return new int[] {0, 0};
        }
        int i = 0;
        for (int force = 54; force <= p.power; force += 5) {
            Map<String, Integer> m = arms(p, force, 0, angle, s.round);
            long sure = good[i++] ? 1000000 - ask("over", m) * 1000 : 0;
            Person q = p.copy();
            q.wear = Math.min(1000, q.wear + ask("wear", m));
            q.thrown++;
            long then = q.wear == 1000 ? 0 : chance(q, mark, left - 1, angle, spear, good)[0];
            int all = (int) (sure + (1000000 - sure) * then / 1000000);
            if (all > most) {
                most = all;
                by = force;
            }
        }
        return new int[] {most, by};
    }

    int chance(int thrower, int mark, int throwsLeft, int angle, int spear, int what) {
        Person p = person(thrower);
        if (p == null || !in(throwsLeft, 0, 6) || !in(angle, 0, 60) || !spearIs(spear) || !in(what, 0, 1)) {
            return NONE;
        }
        boolean[] good = new boolean[10];
        for (int i = 0; i < 10; i++) {
            Air x = flight(54 + 5 * i, angle, spear, s.wind);
            good[i] = x.good && x.far >= mark;
        }
        return chance(p.copy(), mark, throwsLeft, angle, spear, good)[what];
    }

    int waitFor(int force, int angle, int spear, int what) {
        if (!in(force, 0, 99) || !in(angle, 0, 60) || !spearIs(spear) || !in(what, 0, 1)) {
            return NONE;
        }
        int[] found = {NONE, NONE};
        for (int i = 0; i < s.gusts.size(); i++) {
            Air x = flight(force, angle, spear, s.gusts.get(i));
            if (x.good && x.far > found[1]) {
                found = new int[] {i, x.far};
            }
        }
        return found[what];
    }

    int leastForce(int spear, int wind, int mark, int what) {
        if (!spearIs(spear) || !in(wind, -29, 29) || !in(what, 0, 1)) {
            return NONE;
        }
        for (int force = 0; force <= 99; force++) {
            for (int a = 0; a <= 60; a++) {
                Air x = flight(force, a, spear, wind);
                if (x.good && x.far >= mark) {
                    return what == 0 ? force : a;
                }
            }
        }
        return NONE;
    }

    long better(int force, int angle, int spear, int other) {
        if (!in(force, 0, 99) || !in(angle, 0, 60) || !spearIs(spear) || !spearIs(other)) {
            return NONE;
        }
        long set = 0;
        for (int w = -20; w <= 20; w++) {
            Air x = flight(force, angle, spear, w);
            Air y = flight(force, angle, other, w);
            if (x.good && (!y.good || y.far < x.far)) {
                set += 1L << (w + 20);
            }
        }
        return set;
    }

    int span(int line, int what) {
        if (!in(line, 0, s.book.size() - 1) || !in(what, 0, 1)) {
            return NONE;
        }
        int[] b = s.book.get(line);
        int least = Integer.MAX_VALUE;
        int most = -1;
        for (int d = -s.slip; d <= s.slip; d++) {
            int far = flight(b[4], held(b[5] + d, 0, 90), b[3], 0).far;
            least = Math.min(least, far);
            most = Math.max(most, far);
        }
        return what == 0 ? least : most;
    }

    private final Map<List<Integer>, Integer> trained = new HashMap<>();

    private int train(int power, int wear, int week, int weeks, int limit, int onlyFirst) {
        if (week == weeks) {
            return power;
        }
        List<Integer> key = List.of(power, wear, week);
        if (week > 0 && trained.containsKey(key)) {
            return trained.get(key);
        }
        int most = NONE;
        for (int balls = 0; balls <= 3; balls++) {
            if (week == 0 && balls != onlyFirst) {
                continue;
            }
            Map<String, Integer> m = Map.of("balls", balls, "power", power, "wearing", wear, "week", week);
            int p = Math.min(99, power + held(tell(s.training, "gain", m), 0, 9));
            int w = held(wear + held(tell(s.training, "cost", m), -200, 200), 0, 1000);
            if (w <= limit) {
                most = Math.max(most, train(p, w, week + 1, weeks, limit, onlyFirst));
            }
        }
        trained.put(key, most);
        return most;
    }

    int train(int thrower, int weeks, int wear, int what) {
        Person p = person(thrower);
        if (p == null || !in(weeks, 1, 12) || !in(wear, 0, 1000) || !in(what, 0, 1)) {
            return NONE;
        }
        int most = NONE;
        int first = NONE;
        trained.clear();
        for (int balls = 0; balls <= 3; balls++) {
            int power = train(p.power, p.wear, 0, weeks, wear, balls);
            if (power > most) {
                most = power;
                first = balls;
            }
        }
        return what == 0 ? most : first;
    }

    int would(int thrower) {
        if (person(thrower) == null) {
            return NONE;
        }
        State was = s;
        List<State> wasPast = past;
        List<Line> lawWithoutOver = new ArrayList<>();
        for (Line line : s.arms) {
            if (!line.word.equals("over")) {
                lawWithoutOver.add(line);
            }
        }
        s = was.copy();
        past = new ArrayList<>();
        s.slip = 0;
        s.gusty = 0;
        s.arms = lawWithoutOver;
        turnsGo(48);
        int best = s.people.get(thrower).best;
        s = was;
        past = wasPast;
        return best;
    }

    long verdict(int e) {
        if (!in(e, 0, 1000)) {
            return NONE;
        }
        long sum = 0;
        for (int judges = 0; judges < 8; judges++) {
            if (Integer.bitCount(judges) >= 2) {
                long way = 1;
                for (int k = 0; k < 3; k++) {
                    way *= (judges >> k & 1) == 1 ? 1000 - e : e;
                }
                sum += way;
            }
        }
        return sum;
    }

    int path(int line, int n, int what) {
        if (!in(line, 0, s.book.size() - 1) || !in(n, 0, 400) || !in(what, 0, 3)) {
            return -10000;
        }
        int[] b = s.book.get(line);
        Air x = flight(b[4], b[5], 0, b[3], b[6], s.side, n);
        return new int[] {x.far, x.height, x.off, x.pitch}[what];
    }

    int needed(int angle, int spear, int wind, int mark) {
        if (!in(angle, 0, 60) || !spearIs(spear) || !in(wind, -29, 29)) {
            return NONE;
        }
        for (int force = 0; force <= 99; force++) {
            Air x = flight(force, angle, spear, wind);
            if (x.good && x.far >= mark) {
                return force;
            }
        }
        return NONE;
    }

    int rests(int thrower, int v) {
        Person p = person(thrower);
        if (p == null || !in(v, 0, 1000)) {
            return NONE;
        }
        Person q = p.copy();
        for (int d = 0; d <= 400; d++) {
            if (q.wear <= v) {
                return d;
            }
            q.wear = Math.max(0, q.wear - ask("mend", arms(q, 0, 0, 0, s.round)));
        }
        return NONE;
    }
}
