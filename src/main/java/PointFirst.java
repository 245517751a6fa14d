import java.util.Arrays;

/** Throwers of spears, their meets, their book, and what can be thought of them: see ../shared/DOC.md. */
public final class PointFirst {
    public static final int NONE = -1;

    private static final int MOST_FORCE = 99;
    private static final int MOST_ANGLE = 60;
    private static final int RIGHT_ANGLE = 90;
    private static final int MOST_POWER = 99;
    private static final int MOST_WEAR = 1000;
    private static final int MOST_WIND = 29;
    private static final int MOST_SET_WIND = 20;
    private static final int MOST_DAY = 9999;
    private static final int GOOD = 0;
    private static final int OVER = 1;
    private static final int FLAT = 2;
    private static final int ASIDE = 4;

    private final World now = new World();
    private final Reader reader = new Reader();
    private final Thought thought = new Thought();
    private final Arms arms = new Arms();
    private final Past past = new Past();
    // These three are large, and many objects never need them: they are made when first asked for.
    private World kept;
    private Chances chances;
    private Training training;

    /** Nobody there. */
    public PointFirst() {
    }

    // ---- what is told

    public int state(int v) {
        int was = now.state;
        now.state = v;
        past.forget();
        return was;
    }

    public int spear(int soft, int tip) {
        if (!within(soft, 0, 9) || !within(tip, 0, 9) || now.spears >= World.MOST_SPEARS) {
            return NONE;
        }
        past.forget();
        return now.addSpear(soft, tip);
    }

    public int thrower(int power) {
        if (!within(power, 0, MOST_POWER) || now.throwers >= World.MOST_THROWERS || now.begun()) {
            return NONE;
        }
        past.forget();
        return now.addThrower(power);
    }

    public boolean set(int what, int who, int v) {
        boolean done = within(what, 0, 4) ? now.tell(what, v) : tellThrower(what, who, v);
        if (done) {
            past.forget();
        }
        return done;
    }

    private boolean tellThrower(int what, int who, int v) {
        Thrower t = now.one(who);
        if (t == null) {
            return false;
        }
        if (what == 5 && within(v, 0, MOST_POWER)) {
            t.power = v;
            return true;
        }
        if (what == 6 && within(v, 0, MOST_WEAR)) {
            t.wear = v;
            return true;
        }
        return false;
    }

    public int feed(int a, int b, int c, int d, int e) {
        Tape tape = reader.tape;
        if (tape.length + 20 > Tape.MOST) {
            return NONE;
        }
        tape.add(a);
        tape.add(b);
        tape.add(c);
        tape.add(d);
        tape.add(e);
        return tape.length;
    }

    public boolean end(int n) {
        if (!within(n, 0, reader.tape.length)) {
            return false;
        }
        reader.tape.length = n;
        return true;
    }

    public int text(int k, int thrower) {
        reader.begin();
        Thrower t = now.one(thrower);
        int lines = NONE;
        if (k == 0 && reader.law(Reader.FLIGHT, 4)) {
            lines = keepLaw(now.flight);
        } else if (k == 1 && reader.law(Reader.ARMS, 3)) {
            lines = keepLaw(now.arms);
        } else if (k == 2 && t != null && reader.plan(now.spears)) {
            lines = keepPlan(t);
        } else if (k == 3 && reader.law(Reader.TRAINING, 2)) {
            lines = keepLaw(now.training);
        }
        reader.tape.length = 0;
        return lines;
    }

    private int keepLaw(Law law) {
        law.copy(reader.law);
        return law.lines;
    }

    private int keepPlan(Thrower t) {
        System.arraycopy(reader.orders, 0, t.plan, 0, t.plan.length);
        t.orders = reader.order;
        t.next = 0;
        past.forget();
        return t.orders;
    }

    public int fault(int what) {
        if (what == 0) {
            return reader.fault;
        }
        return what == 1 ? reader.faultPlace : NONE;
    }

    public int gust(int wind) {
        if (wind == NONE - 99) {
            now.gusts = 0;
            return 0;
        }
        if (!within(wind, -MOST_WIND, MOST_WIND) || now.gusts >= World.MOST_GUSTS) {
            return NONE;
        }
        now.minute[now.gusts] = wind;
        now.gusts++;
        return now.gusts;
    }

    // ---- what is done

    public int throwIt(int force, int angle, int spear, int pace) {
        Thrower t = now.whose();
        if (t == null || t.wear >= MOST_WEAR || !canThrow(force, angle, spear) || !within(pace, 0, 9)) {
            return NONE;
        }
        return hurl(t, force, angle, spear, pace);
    }

    private boolean canThrow(int force, int angle, int spear) {
        return within(force, 0, MOST_FORCE) && within(angle, 0, MOST_ANGLE) && now.hasSpear(spear);
    }

    private int hurl(Thrower t, int force, int angle, int spear, int pace) {
        past.remember(now, t);
        int by = Math.min(force + pace, t.power);
        arms.ask(t, now.round);
        arms.askThrow(by, pace, angle);
        int over = arms.tell(now.arms, Arms.OVER);
        boolean isOver = over > 0 && now.draw(1000) < over;
        int slipped = hold(angle + now.swing(now.told[World.SLIP]), 0, RIGHT_ANGLE);
        int wind = now.told[World.WIND] + now.swing(now.told[World.GUSTY]);
        Flight flight = thought.flight;
        flight.begin(now, by, slipped, 0, spear, wind, now.told[World.SIDE]);
        flight.go(now.flight, Flight.MOST_TICKS);
        int how = isOver ? OVER : flight.how(now.told[World.SECTOR]);
        t.wear = Math.min(MOST_WEAR, t.wear + arms.tell(now.arms, Arms.WEAR));
        t.thrown++;
        if (how == GOOD) {
            t.best = Math.max(t.best, flight.far);
        }
        now.write(spear, by, slipped, wind, flight.far, how);
        now.nextTurn();
        return how;
    }

    public boolean pass() {
        Thrower t = now.whose();
        if (t == null) {
            return false;
        }
        past.remember(now, t);
        now.nextTurn();
        return true;
    }

    public int turnsGo(int n) {
        if (!within(n, 1, 48) || now.whose() == null) {
            return NONE;
        }
        int thrown = 0;
        for (int i = 0; i < n; i++) {
            Thrower t = now.whose();
            if (t != null && turnByPlan(t)) {
                thrown++;
            }
        }
        return thrown;
    }

    private boolean turnByPlan(Thrower t) {
        int order = t.next;
        if (!t.throwsBy(order)) {
            past.remember(now, t);
            t.next = Math.min(t.orders, order + 1);
            now.nextTurn();
            return false;
        }
        hurl(t, t.order(order, Thrower.FORCE), t.order(order, Thrower.ANGLE), t.order(order, Thrower.SPEAR),
                t.order(order, Thrower.PACE));
        t.next = order + 1;
        return true;
    }

    public void meet() {
        past.forget();
        now.beginMeet();
    }

    public boolean days(int n) {
        if (!within(n, 1, 100) || now.day + n > MOST_DAY) {
            return false;
        }
        past.forget();
        for (int i = 0; i < n; i++) {
            for (int k = 0; k < now.throwers; k++) {
                mend(now.one(k));
            }
            now.day++;
        }
        return true;
    }

    private void mend(Thrower t) {
        if (t != null) {
            arms.ask(t, now.round);
            t.wear = Math.max(0, t.wear - arms.tell(now.arms, Arms.MEND));
        }
    }

    public boolean undo() {
        return past.goBack(now);
    }

    public boolean image(boolean taken) {
        if (!taken) {
            if (kept == null) {
                return false;
            }
            now.copy(kept);
            past.forget();
            return true;
        }
        if (kept == null) {
            kept = new World();
        }
        kept.copy(now);
        return true;
    }

    // ---- what is seen

    public int of(int thrower, int what) {
        Thrower t = now.one(thrower);
        if (t == null) {
            return NONE;
        }
        switch (what) {
            case 0:
                return t.power;
            case 1:
                return t.wear;
            case 2:
                return t.best;
            case 3:
                return t.thrown;
            case 4:
                return now.rank(t);
            case 5:
                return now.needs(thrower);
            case 6:
                return t.orders - t.next;
            case 7:
                return now.rule(thrower);
            default:
                return NONE;
        }
    }

    public int at(int spear, int what) {
        if (!now.hasSpear(spear)) {
            return NONE;
        }
        return what == 0 ? now.soft[spear] : what == 1 ? now.tip[spear] : NONE;
    }

    public int book(int i, int what) {
        return within(what, 0, World.COLUMNS - 1) && now.hasLine(i) ? now.column(i, what) : NONE - 99;
    }

    public int place(int i) {
        for (int k = 0; k < now.throwers; k++) {
            if (now.ahead(k) == i) {
                return k;
            }
        }
        return NONE;
    }

    public int record(int spear) {
        int line = NONE;
        for (int i = 0; i < now.lines; i++) {
            if (now.column(i, World.HOW) == GOOD && now.column(i, World.BY_SPEAR) == spear
                    && (line == NONE || now.column(i, World.FAR) > now.column(line, World.FAR))) {
                line = i;
            }
        }
        return line;
    }

    public int after(int thrower, int r) {
        return now.one(thrower) != null && within(r, 0, World.ROUNDS) ? now.bestBefore(thrower, r) : NONE;
    }

    public int look(int what) {
        switch (what) {
            case 0:
                return now.spears;
            case 1:
                return now.throwers;
            case 2:
                return now.round;
            case 3:
                return now.turn;
            case 4:
                return now.day;
            case 5:
                return now.lines;
            case 6:
                return now.state;
            case 7:
                return now.flight.lines;
            case 8:
                return now.arms.lines;
            case 9:
                return past.count;
            case 10:
                return now.gusts;
            case 11:
                return now.training.lines;
            default:
                return within(what, 20, 24) ? now.told[what - 20] : NONE - 999;
        }
    }

    // ---- in thought

    public int fly(int force, int angle, int lie, int spear, int wind, int side, int what) {
        if (!within(force, 0, MOST_FORCE) || !within(angle, 0, RIGHT_ANGLE) || !within(lie, -9, 9)
                || !now.hasSpear(spear) || !canBlow(wind) || !canBlow(side) || !within(what, 0, 6)) {
            return NONE - 9999;
        }
        Flight flight = thought.flight;
        flight.begin(now, force, angle, lie, spear, wind, side);
        flight.go(now.flight, Flight.MOST_TICKS);
        switch (what) {
            case 0:
                return flight.far;
            case 1:
                return flight.landing();
            case 2:
                return flight.off;
            case 3:
                return flight.is[Flight.TICK];
            case 4:
                return flight.top;
            case 5:
                return flight.how(now.told[World.SECTOR]) == GOOD ? 1 : 0;
            default:
                return flight.is[Flight.PITCH];
        }
    }

    private static boolean canBlow(int wind) {
        return within(wind, -MOST_WIND, MOST_WIND);
    }

    public int angle(int force, int spear, int wind, int what) {
        if (!canThrow(force, 0, spear) || !canBlow(wind) || !within(what, 0, 3)) {
            return NONE;
        }
        if (what < 2) {
            thought.findAngle(now, force, spear, wind);
        } else {
            thought.findSafe(now, force, spear, wind);
        }
        return what % 2 == 0 ? thought.foundAngle : thought.foundFar;
    }

    public int right(int force, int wind) {
        if (!within(force, 0, MOST_FORCE) || !canBlow(wind)) {
            return NONE;
        }
        int found = NONE;
        int most = NONE;
        for (int k = 0; k < now.spears; k++) {
            thought.findAngle(now, force, k, wind);
            if (thought.foundFar > most) {
                most = thought.foundFar;
                found = k;
            }
        }
        return found;
    }

    public long winds(int force, int angle, int spear, int far, int e) {
        if (!canThrow(force, angle, spear) || !within(e, 0, 999)) {
            return NONE;
        }
        long set = 0L;
        for (int w = -MOST_SET_WIND; w <= MOST_SET_WIND; w++) {
            long more = (long) thought.far(now, force, angle, spear, w) - far;
            if (Math.abs(more) <= e) {
                set |= 1L << (w + MOST_SET_WIND);
            }
        }
        return set;
    }

    public int still(int line) {
        if (!now.hasLine(line)) {
            return NONE;
        }
        return thought.far(now, now.column(line, World.BY_FORCE), now.column(line, World.BY_ANGLE),
                now.column(line, World.BY_SPEAR), 0);
    }

    public int holds(int thrower, int force, int angle) {
        Thrower t = now.one(thrower);
        if (t == null || !within(force, 0, MOST_FORCE) || !within(angle, 0, MOST_ANGLE)) {
            return NONE;
        }
        arms.ask(t, now.round);
        arms.askThrow(Math.min(force, t.power), 0, angle);
        int wear = t.wear;
        int n = 0;
        for (int i = 0; i < 60 && wear < MOST_WEAR; i++) {
            arms.askState(wear, t.thrown + i);
            wear = Math.min(MOST_WEAR, wear + arms.tell(now.arms, Arms.WEAR));
            n++;
        }
        return n;
    }

    public int chance(int thrower, int mark, int throwsLeft, int angle, int spear, int what) {
        Thrower t = now.one(thrower);
        if (t == null || !within(throwsLeft, 0, World.ROUNDS) || !canThrow(0, angle, spear)
                || !within(what, 0, 1)) {
            return NONE;
        }
        if (chances == null) {
            chances = new Chances();
        }
        for (int i = 0; i < Chances.FORCES; i++) {
            int far = thought.goodFar(now, Chances.choice(i), angle, spear, now.told[World.WIND]);
            chances.reaches[i] = far != NONE && far >= mark;
        }
        chances.weigh(now, t, throwsLeft, angle);
        return what == 0 ? chances.most : chances.force;
    }

    public int waitFor(int force, int angle, int spear, int what) {
        if (!canThrow(force, angle, spear) || !within(what, 0, 1)) {
            return NONE;
        }
        int second = NONE;
        int most = NONE;
        for (int i = 0; i < now.gusts && i < now.minute.length; i++) {
            int far = thought.goodFar(now, force, angle, spear, now.minute[i]);
            if (far > most) {
                most = far;
                second = i;
            }
        }
        return what == 0 ? second : most;
    }

    public int leastForce(int spear, int wind, int mark, int what) {
        if (!now.hasSpear(spear) || !canBlow(wind) || !within(what, 0, 1)) {
            return NONE;
        }
        for (int force = 0; force <= MOST_FORCE; force++) {
            int angle = thought.angleFor(now, force, spear, wind, mark);
            if (angle != NONE) {
                return what == 0 ? force : angle;
            }
        }
        return NONE;
    }

    public long better(int force, int angle, int spear, int other) {
        if (!canThrow(force, angle, spear) || !now.hasSpear(other)) {
            return NONE;
        }
        long set = 0L;
        for (int w = -MOST_SET_WIND; w <= MOST_SET_WIND; w++) {
            int far = thought.goodFar(now, force, angle, spear, w);
            if (far != NONE && far > thought.goodFar(now, force, angle, other, w)) {
                set |= 1L << (w + MOST_SET_WIND);
            }
        }
        return set;
    }

    public int span(int line, int what) {
        if (!now.hasLine(line) || !within(what, 0, 1)) {
            return NONE;
        }
        int slip = now.told[World.SLIP];
        int found = NONE;
        for (int s = -slip; s <= slip; s++) {
            int angle = hold(now.column(line, World.BY_ANGLE) + s, 0, RIGHT_ANGLE);
            int far = thought.far(now, now.column(line, World.BY_FORCE), angle, now.column(line, World.BY_SPEAR), 0);
            if (found == NONE || (what == 0 ? far < found : far > found)) {
                found = far;
            }
        }
        return found;
    }

    public int train(int thrower, int weeks, int wear, int what) {
        Thrower t = now.one(thrower);
        if (t == null || !within(weeks, 1, 12) || !within(wear, 0, MOST_WEAR) || !within(what, 0, 1)) {
            return NONE;
        }
        if (training == null) {
            training = new Training();
        }
        training.begin(t.power, t.wear);
        for (int week = 0; week < weeks; week++) {
            training.week(now.training, week, wear);
        }
        training.judge();
        return what == 0 ? training.power : training.hundreds;
    }

    public int would(int thrower) {
        Thrower t = now.one(thrower);
        if (t == null) {
            return NONE;
        }
        int wear = t.wear;
        int best = t.best;
        int thrown = t.thrown;
        int order = t.next;
        int first = thrower < now.turn ? now.round + 1 : now.round;
        for (int round = first; round < World.ROUNDS; round++) {
            if (t.wouldThrow(order, best, wear)) {
                int force = Math.min(t.order(order, Thrower.FORCE) + t.order(order, Thrower.PACE), t.power);
                int angle = t.order(order, Thrower.ANGLE);
                arms.ask(t, round);
                arms.askThrow(force, t.order(order, Thrower.PACE), angle);
                arms.askState(wear, thrown);
                arms.askBest(best);
                wear = Math.min(MOST_WEAR, wear + arms.tell(now.arms, Arms.WEAR));
                thrown++;
                best = Math.max(best, thought.goodFar(now, force, angle, t.order(order, Thrower.SPEAR),
                        now.told[World.WIND]));
            }
            order = Math.min(t.orders, order + 1);
        }
        return best;
    }

    public long verdict(int e) {
        if (!within(e, 0, 1000)) {
            return NONE;
        }
        long right = 1000L - e;
        return right * right * (right + 3L * e);
    }

    public int path(int line, int n, int what) {
        if (!now.hasLine(line) || !within(n, 0, Flight.MOST_TICKS) || !within(what, 0, 3)) {
            return NONE - 9999;
        }
        Flight flight = thought.flight;
        flight.begin(now, now.column(line, World.BY_FORCE), now.column(line, World.BY_ANGLE), 0,
                now.column(line, World.BY_SPEAR), now.column(line, World.BY_WIND), now.told[World.SIDE]);
        flight.go(now.flight, n);
        switch (what) {
            case 0:
                return flight.far;
            case 1:
                return flight.is[Flight.HEIGHT];
            case 2:
                return flight.off;
            default:
                return flight.is[Flight.PITCH];
        }
    }

    public int needed(int angle, int spear, int wind, int mark) {
        if (!canThrow(0, angle, spear) || !canBlow(wind)) {
            return NONE;
        }
        for (int force = 0; force <= MOST_FORCE; force++) {
            int far = thought.goodFar(now, force, angle, spear, wind);
            if (far != NONE && far >= mark) {
                return force;
            }
        }
        return NONE;
    }

    public int rests(int thrower, int v) {
        Thrower t = now.one(thrower);
        if (t == null || !within(v, 0, MOST_WEAR)) {
            return NONE;
        }
        arms.ask(t, now.round);
        int wear = t.wear;
        for (int day = 0; day <= 400; day++) {
            if (wear <= v) {
                return day;
            }
            arms.askState(wear, t.thrown);
            wear = Math.max(0, wear - arms.tell(now.arms, Arms.MEND));
        }
        return NONE;
    }

    // ---- for all

    private static boolean within(int v, int low, int high) {
        return v >= low && v <= high;
    }

    private static int hold(int v, int low, int high) {
        return v < low ? low : v > high ? high : v;
    }

    /** All that THE IMAGE holds. */
    static final class World {
        static final int MOST_SPEARS = 6;
        static final int MOST_THROWERS = 8;
        static final int MOST_GUSTS = 60;
        static final int ROUNDS = 6;
        static final int WIND = 0;
        static final int SIDE = 1;
        static final int GUSTY = 2;
        static final int SLIP = 3;
        static final int SECTOR = 4;
        static final int MOST_LINES = 100;
        static final int COLUMNS = 9;
        static final int DAY = 0;
        static final int ROUND = 1;
        static final int WHO = 2;
        static final int BY_SPEAR = 3;
        static final int BY_FORCE = 4;
        static final int BY_ANGLE = 5;
        static final int BY_WIND = 6;
        static final int FAR = 7;
        static final int HOW = 8;

        int state;
        int day;
        int round;
        int turn;
        int spears;
        int throwers;
        int lines;
        int gusts;
        final int[] told = new int[5];
        final int[] soft = new int[MOST_SPEARS];
        final int[] tip = new int[MOST_SPEARS];
        final Thrower[] team = new Thrower[MOST_THROWERS];
        final int[] lineOf = new int[MOST_LINES * COLUMNS];
        final int[] minute = new int[MOST_GUSTS];
        final Law flight = new Law();
        final Law arms = new Law();
        final Law training = new Law();

        World() {
            told[SECTOR] = 7;
            for (int k = 0; k < MOST_THROWERS; k++) {
                team[k] = new Thrower();
            }
        }

        void copy(World w) {
            state = w.state;
            day = w.day;
            round = w.round;
            turn = w.turn;
            spears = w.spears;
            throwers = w.throwers;
            lines = w.lines;
            gusts = w.gusts;
            System.arraycopy(w.told, 0, told, 0, told.length);
            System.arraycopy(w.soft, 0, soft, 0, soft.length);
            System.arraycopy(w.tip, 0, tip, 0, tip.length);
            System.arraycopy(w.lineOf, 0, lineOf, 0, lineOf.length);
            System.arraycopy(w.minute, 0, minute, 0, minute.length);
            for (int k = 0; k < MOST_THROWERS; k++) {
                team[k].copy(w.team[k]);
            }
            flight.copy(w.flight);
            arms.copy(w.arms);
            training.copy(w.training);
        }

        int addSpear(int itsSoft, int itsTip) {
            if (spears >= MOST_SPEARS) {
                return NONE;
            }
            soft[spears] = itsSoft;
            tip[spears] = itsTip;
            spears++;
            return spears - 1;
        }

        int addThrower(int power) {
            if (throwers >= MOST_THROWERS) {
                return NONE;
            }
            team[throwers].begin(power);
            throwers++;
            return throwers - 1;
        }

        boolean tell(int what, int v) {
            boolean can = what <= SIDE ? within(v, -MOST_SET_WIND, MOST_SET_WIND)
                    : what <= SLIP ? within(v, 0, 9) : within(v, 1, 20);
            if (!can || !within(what, WIND, SECTOR)) {
                return false;
            }
            told[what] = v;
            return true;
        }

        boolean hasSpear(int spear) {
            return spear >= 0 && spear < spears && spear < MOST_SPEARS;
        }

        boolean hasLine(int i) {
            return i >= 0 && i < lines && i < MOST_LINES;
        }

        Thrower one(int who) {
            return who >= 0 && who < throwers && who < MOST_THROWERS ? team[who] : null;
        }

        /** Null if the MEET is over, or nobody is there. */
        Thrower whose() {
            return round < ROUNDS ? one(turn) : null;
        }

        boolean begun() {
            return round > 0 || turn > 0;
        }

        void nextTurn() {
            turn++;
            if (turn >= throwers) {
                turn = 0;
                round++;
            }
        }

        void beginMeet() {
            round = 0;
            turn = 0;
            for (int k = 0; k < throwers && k < MOST_THROWERS; k++) {
                team[k].beginMeet();
            }
        }

        int draw(int m) {
            state = state * 1664525 + 1013904223;
            return m > 0 ? (state >>> 8) % m : 0;
        }

        /** From most less to most more; nothing is drawn where nothing can swing. */
        int swing(int most) {
            return most > 0 ? draw(2 * most + 1) - most : 0;
        }

        void write(int spear, int force, int angle, int wind, int far, int how) {
            if (lines >= MOST_LINES) {
                return;
            }
            int i = lines * COLUMNS;
            lineOf[i + DAY] = day;
            lineOf[i + ROUND] = round;
            lineOf[i + WHO] = turn;
            lineOf[i + BY_SPEAR] = spear;
            lineOf[i + BY_FORCE] = force;
            lineOf[i + BY_ANGLE] = angle;
            lineOf[i + BY_WIND] = wind;
            lineOf[i + FAR] = far;
            lineOf[i + HOW] = how;
            lines++;
        }

        int column(int i, int what) {
            return hasLine(i) && within(what, 0, COLUMNS - 1) ? lineOf[i * COLUMNS + what] : NONE;
        }

        private boolean isToday(int i, int who) {
            return column(i, WHO) == who && column(i, DAY) == day;
        }

        int rule(int who) {
            int far = 0;
            for (int i = 0; i < lines; i++) {
                int how = column(i, HOW);
                if (isToday(i, who) && (how == GOOD || how == FLAT)) {
                    far = Math.max(far, column(i, FAR));
                }
            }
            return far;
        }

        int bestBefore(int who, int r) {
            int far = 0;
            for (int i = 0; i < lines; i++) {
                if (isToday(i, who) && column(i, HOW) == GOOD && column(i, ROUND) < r) {
                    far = Math.max(far, column(i, FAR));
                }
            }
            return far;
        }

        int rank(Thrower t) {
            int rank = 1;
            for (int k = 0; k < throwers && k < MOST_THROWERS; k++) {
                if (team[k].best > t.best) {
                    rank++;
                }
            }
            return rank;
        }

        int needs(int who) {
            Thrower t = one(who);
            if (t == null) {
                return NONE;
            }
            int needs = 0;
            for (int k = 0; k < throwers && k < MOST_THROWERS; k++) {
                if (k != who) {
                    needs = Math.max(needs, team[k].best + 1 - t.best);
                }
            }
            return needs;
        }

        /** How many stand ahead of one: with a greater BEST, or as great a one and a lesser number. */
        int ahead(int who) {
            Thrower t = one(who);
            if (t == null) {
                return NONE;
            }
            int ahead = 0;
            for (int k = 0; k < throwers && k < MOST_THROWERS; k++) {
                if (team[k].best > t.best || (team[k].best == t.best && k < who)) {
                    ahead++;
                }
            }
            return ahead;
        }
    }

    /** One who throws, and his PLAN. */
    static final class Thrower {
        static final int MOST_ORDERS = 12;
        static final int PARTS = 5;
        static final int FORCE = 0;
        static final int ANGLE = 1;
        static final int SPEAR = 2;
        static final int PACE = 3;
        static final int BELOW = 4;

        int power;
        int wear;
        int best;
        int thrown;
        int orders;
        int next;
        /** Of each order its parts: the FORCE NONE is a pass, BELOW NONE is not told. */
        final int[] plan = new int[MOST_ORDERS * PARTS];

        void begin(int itsPower) {
            power = itsPower;
            wear = 0;
            orders = 0;
            beginMeet();
        }

        void beginMeet() {
            best = 0;
            thrown = 0;
            next = 0;
        }

        void copy(Thrower t) {
            power = t.power;
            wear = t.wear;
            best = t.best;
            thrown = t.thrown;
            orders = t.orders;
            next = t.next;
            System.arraycopy(t.plan, 0, plan, 0, plan.length);
        }

        int order(int i, int part) {
            return i >= 0 && i < orders && i < MOST_ORDERS && within(part, 0, PARTS - 1)
                    ? plan[i * PARTS + part] : NONE;
        }

        boolean throwsBy(int i) {
            return wouldThrow(i, best, wear);
        }

        boolean wouldThrow(int i, int itsBest, int itsWear) {
            if (order(i, FORCE) == NONE || itsWear >= MOST_WEAR) {
                return false;
            }
            int below = order(i, BELOW);
            return below == NONE || itsBest < below * 100;
        }
    }

    /** A LAW as rows of steps: of each line first those of its E, then those of its B. */
    static final class Law {
        static final int MOST_LINES = 16;
        static final int NUMBER = 0;
        static final int ASKED = 1;
        static final int PLUS = 2;
        static final int LESS = 3;
        static final int TIMES = 4;
        static final int BY = 5;
        static final int BELOW = 6;
        static final int EQUAL = 7;
        static final int ABOVE = 8;
        static final int NOT = 9;
        static final int AND = 10;
        static final int OR = 11;

        int lines;
        private int steps;
        private final int[] word = new int[MOST_LINES];
        private final int[] from = new int[MOST_LINES];
        private final int[] when = new int[MOST_LINES];
        private final int[] to = new int[MOST_LINES];
        /** A step: what it is, and 16 times its number. A token makes one at most. */
        private final int[] step = new int[Tape.MOST];
        /** Eight open ( need two places each, what is open outside of them two, a comparison four. */
        private final int[] stack = new int[32];

        void clear() {
            lines = 0;
            steps = 0;
        }

        void copy(Law law) {
            lines = law.lines;
            steps = law.steps;
            System.arraycopy(law.word, 0, word, 0, word.length);
            System.arraycopy(law.from, 0, from, 0, from.length);
            System.arraycopy(law.when, 0, when, 0, when.length);
            System.arraycopy(law.to, 0, to, 0, to.length);
            System.arraycopy(law.step, 0, step, 0, step.length);
        }

        void beginLine(int itsWord) {
            if (lines < MOST_LINES) {
                word[lines] = itsWord;
                from[lines] = steps;
            }
        }

        void beginWhen() {
            if (lines < MOST_LINES) {
                when[lines] = steps;
            }
        }

        void endLine() {
            if (lines < MOST_LINES) {
                to[lines] = steps;
                lines++;
            }
        }

        void put(int kind, int number) {
            if (steps < step.length) {
                step[steps] = kind + 16 * number;
                steps++;
            }
        }

        int tell(int itsWord, int[] asked) {
            for (int i = 0; i < lines && i < MOST_LINES; i++) {
                if (word[i] == itsWord && (when[i] >= to[i] || count(when[i], to[i], asked) != 0)) {
                    return count(from[i], when[i], asked);
                }
            }
            return 0;
        }

        private int count(int first, int behind, int[] asked) {
            int top = 0;
            for (int i = first; i < behind && i < step.length; i++) {
                int kind = step[i] & 15;
                int number = step[i] >> 4;
                if (kind <= ASKED) {
                    if (top >= stack.length) {
                        return 0;
                    }
                    stack[top] = kind == NUMBER ? number : number < asked.length ? asked[number] : 0;
                    top++;
                    continue;
                }
                if (top < 1 || (kind != BY && kind != NOT && top < 2)) {
                    return 0;
                }
                if (kind == BY) {
                    stack[top - 1] = number > 0 ? stack[top - 1] / number : 0;
                } else if (kind == NOT) {
                    stack[top - 1] = 1 - stack[top - 1];
                } else {
                    top--;
                    stack[top - 1] = join(kind, stack[top - 1], stack[top]);
                }
            }
            return top > 0 ? stack[top - 1] : 0;
        }

        private static int join(int kind, int a, int b) {
            switch (kind) {
                case PLUS:
                    return a + b;
                case LESS:
                    return a - b;
                case TIMES:
                    return a * b;
                case BELOW:
                    return a < b ? 1 : 0;
                case EQUAL:
                    return a == b ? 1 : 0;
                case ABOVE:
                    return a > b ? 1 : 0;
                case AND:
                    return a & b;
                default:
                    return a | b;
            }
        }
    }

    /** The bytes that were fed, and the tokens that they are. */
    static final class Tape {
        static final int MOST = 400;
        static final int BAD = 0;
        static final int NUMBER = 1;
        static final int LAST = 2;
        /** The first keyword's kind; the kind of ; + - and their like is their sign. */
        static final int WORD = 256;

        int length;
        /** Of the token that is read now: its kind, its NUMBER and its place. */
        int kind;
        int value;
        int place;
        private final byte[] bytes = new byte[MOST];
        private int tokens;
        private int token;
        private final int[] kinds = new int[MOST + 1];
        private final int[] values = new int[MOST + 1];
        private final int[] places = new int[MOST + 1];

        void add(int four) {
            for (int shift = 24; shift >= 0; shift -= 8) {
                if (length < MOST) {
                    bytes[length] = (byte) (four >>> shift);
                    length++;
                }
            }
        }

        /** The next token; the LAST one stays. */
        void next() {
            token++;
            if (token < 0 || token >= tokens) {
                return;
            }
            kind = kinds[token];
            value = values[token];
            place = places[token];
        }

        private int byteAt(int i) {
            return i >= 0 && i < length && i < MOST ? bytes[i] : 0;
        }

        /** The tokens of a text whose keywords stand in a row of words; the first is read. */
        void cut(String words) {
            tokens = 0;
            int i = 0;
            for (int n = 0; n < MOST && i < length; n++) {
                int sign = byteAt(i);
                if (sign == 32 || sign == 10) {
                    i++;
                } else if (isLetter(sign)) {
                    int behind = runFrom(i, true);
                    int number = numberOf(words, i, behind);
                    put(number == NONE ? BAD : WORD + number, 0, i);
                    i = behind;
                } else if (isDigit(sign)) {
                    int behind = runFrom(i, false);
                    put(behind - i > 4 ? BAD : NUMBER, amount(i, behind), i);
                    i = behind;
                } else {
                    put(isSign(sign) ? sign : BAD, 0, i);
                    i++;
                }
            }
            put(LAST, 0, length);
            token = -1;
            next();
        }

        private void put(int itsKind, int itsValue, int itsPlace) {
            if (tokens <= MOST) {
                kinds[tokens] = itsKind;
                values[tokens] = itsValue;
                places[tokens] = itsPlace;
                tokens++;
            }
        }

        private static boolean isLetter(int sign) {
            return within(sign, 'a', 'z') || within(sign, 'A', 'Z');
        }

        private static boolean isDigit(int sign) {
            return within(sign, '0', '9');
        }

        private static boolean isSign(int sign) {
            return sign == ';' || sign == '<' || sign == '=' || sign == '>' || sign == '/' || sign == '-'
                    || within(sign, '(', '+');
        }

        private int runFrom(int i, boolean letters) {
            int behind = i;
            for (int n = 0; n < MOST; n++) {
                int sign = byteAt(behind);
                if (letters ? !isLetter(sign) : !isDigit(sign)) {
                    return behind;
                }
                behind++;
            }
            return behind;
        }

        private int amount(int i, int behind) {
            int amount = 0;
            for (int k = i; k < behind && k < i + 4; k++) {
                amount = amount * 10 + byteAt(k) - '0';
            }
            return amount;
        }

        /** Which of the words the bytes from i on are; NONE if none. */
        private int numberOf(String words, int i, int behind) {
            int number = 0;
            int first = 0;
            for (int k = 0; k <= words.length(); k++) {
                if (k == words.length() || words.charAt(k) == ' ') {
                    if (k - first == behind - i && isSame(words, first, k, i)) {
                        return number;
                    }
                    number++;
                    first = k + 1;
                }
            }
            return NONE;
        }

        private boolean isSame(String words, int first, int last, int i) {
            for (int k = first; k < last && k < words.length(); k++) {
                if (words.charAt(k) != byteAt(i + k - first)) {
                    return false;
                }
            }
            return true;
        }
    }

    /** Reads the TAPE as a LAW or a PLAN, up to its first FAULT. */
    static final class Reader {
        static final String FLIGHT =
                "when or and not lift drag dip drift fore up height pitch wind side soft tip tick";
        static final String ARMS =
                "when or and not over wear mend force pace angle wearing power thrown best round";
        static final String TRAINING = "when or and not gain cost balls power wearing week";
        private static final String PLAN = "throw at with pace below pass";
        private static final int WHEN = Tape.WORD;
        private static final int OR = Tape.WORD + 1;
        private static final int AND = Tape.WORD + 2;
        private static final int NOT = Tape.WORD + 3;
        private static final int FIRST = Tape.WORD + 4;
        private static final int THROW = Tape.WORD;
        private static final int AT = Tape.WORD + 1;
        private static final int WITH = Tape.WORD + 2;
        private static final int PACE = Tape.WORD + 3;
        private static final int BELOW = Tape.WORD + 4;
        private static final int PASS = Tape.WORD + 5;
        private static final int MOST_OPEN = 8;
        private static final int CANNOT_STAND = 1;
        private static final int NO_SUCH_NUMBER = 2;
        private static final int TOO_MANY = 3;

        final Tape tape = new Tape();
        int fault;
        int faultPlace = NONE;
        /** What was read: it may end in a FAULT, so it is none's yet. */
        final Law law = new Law();
        final int[] orders = new int[Thrower.MOST_ORDERS * Thrower.PARTS];
        int order;
        private int firstAsked;

        void begin() {
            fault = 0;
            faultPlace = NONE;
            order = 0;
            law.clear();
        }

        private void fail(int which) {
            if (fault == 0) {
                fault = which;
                faultPlace = tape.place;
            }
        }

        private void take(int kind) {
            if (tape.kind == kind) {
                tape.next();
            } else {
                fail(CANNOT_STAND);
            }
        }

        /** A keyword that may be left out: whether it stands here; it is taken then. */
        private boolean taken(int keyword) {
            if (fault != 0 || tape.kind != keyword) {
                return false;
            }
            tape.next();
            return true;
        }

        /** A NUMBER from least to most; least with a FAULT. */
        private int number(int least, int most) {
            int value = tape.value;
            if (tape.kind != Tape.NUMBER) {
                fail(CANNOT_STAND);
            } else if (value < least || value > most) {
                fail(NO_SUCH_NUMBER);
            } else {
                tape.next();
                return value;
            }
            return least;
        }

        boolean law(String keywords, int words) {
            tape.cut(keywords);
            firstAsked = FIRST + words;
            for (int n = 0; n < Tape.MOST && fault == 0 && tape.kind != Tape.LAST; n++) {
                int word = tape.kind;
                if (word < FIRST || word >= firstAsked) {
                    fail(CANNOT_STAND);
                } else if (law.lines >= Law.MOST_LINES) {
                    fail(TOO_MANY);
                } else {
                    tape.next();
                    law.beginLine(word - FIRST);
                    sum();
                    law.beginWhen();
                    if (taken(WHEN)) {
                        anyOf(0);
                    }
                    take(';');
                    law.endLine();
                }
            }
            return fault == 0;
        }

        private void anyOf(int open) {
            allOf(open);
            for (int n = 0; n < Tape.MOST && taken(OR); n++) {
                allOf(open);
                law.put(Law.OR, 0);
            }
        }

        private void allOf(int open) {
            single(open);
            for (int n = 0; n < Tape.MOST && taken(AND); n++) {
                single(open);
                law.put(Law.AND, 0);
            }
        }

        /** One C; open is how many ( and not stand open around it. */
        private void single(int open) {
            if (tape.kind != NOT && tape.kind != '(') {
                sum();
                int step = comparing();
                sum();
                law.put(step, 0);
            } else if (open >= MOST_OPEN) {
                fail(TOO_MANY);
            } else if (taken(NOT)) {
                single(open + 1);
                law.put(Law.NOT, 0);
            } else {
                take('(');
                anyOf(open + 1);
                take(')');
            }
        }

        private int comparing() {
            int step = tape.kind == '<' ? Law.BELOW : tape.kind == '=' ? Law.EQUAL : Law.ABOVE;
            take(step == Law.BELOW ? '<' : step == Law.EQUAL ? '=' : '>');
            return step;
        }

        /** One E: its + and - wait until the T behind them is read. */
        private void sum() {
            int waiting = NONE;
            operand();
            for (int n = 0; n < Tape.MOST && fault == 0; n++) {
                if (taken('*')) {
                    operand();
                    law.put(Law.TIMES, 0);
                } else if (taken('/')) {
                    law.put(Law.BY, number(1, 9999));
                } else {
                    if (waiting != NONE) {
                        law.put(waiting, 0);
                    }
                    waiting = taken('+') ? Law.PLUS : taken('-') ? Law.LESS : NONE;
                    if (waiting == NONE) {
                        return;
                    }
                    operand();
                }
            }
        }

        private void operand() {
            if (tape.kind == Tape.NUMBER) {
                law.put(Law.NUMBER, tape.value);
                tape.next();
            } else if (tape.kind >= firstAsked) {
                law.put(Law.ASKED, tape.kind - firstAsked);
                tape.next();
            } else {
                fail(CANNOT_STAND);
            }
        }

        boolean plan(int spears) {
            tape.cut(PLAN);
            for (int n = 0; n < Tape.MOST && fault == 0 && tape.kind != Tape.LAST; n++) {
                if (tape.kind != THROW && tape.kind != PASS) {
                    fail(CANNOT_STAND);
                } else if (order >= Thrower.MOST_ORDERS) {
                    fail(TOO_MANY);
                } else {
                    if (taken(THROW)) {
                        throwOrder(spears);
                    } else {
                        take(PASS);
                        part(Thrower.FORCE, NONE);
                    }
                    take(';');
                    order++;
                }
            }
            return fault == 0;
        }

        private void throwOrder(int spears) {
            part(Thrower.FORCE, number(0, MOST_FORCE));
            take(AT);
            part(Thrower.ANGLE, number(0, MOST_ANGLE));
            take(WITH);
            part(Thrower.SPEAR, number(0, spears - 1));
            part(Thrower.PACE, taken(PACE) ? number(0, 9) : 0);
            part(Thrower.BELOW, taken(BELOW) ? number(0, 9999) : NONE);
        }

        private void part(int which, int v) {
            int i = order * Thrower.PARTS + which;
            if (i >= 0 && i < orders.length) {
                orders[i] = v;
            }
        }
    }

    /** What THE LAW OF ARMS is asked with. */
    static final class Arms {
        static final int OVER = 0;
        static final int WEAR = 1;
        static final int MEND = 2;
        private static final int FORCE = 0;
        private static final int PACE = 1;
        private static final int ANGLE = 2;
        private static final int WEARING = 3;
        private static final int POWER = 4;
        private static final int THROWN = 5;
        private static final int BEST = 6;
        private static final int ROUND = 7;

        private final int[] asked = new int[8];

        void ask(Thrower t, int round) {
            askThrow(0, 0, 0);
            askState(t.wear, t.thrown);
            askBest(t.best);
            asked[POWER] = t.power;
            asked[ROUND] = round;
        }

        void askThrow(int force, int pace, int angle) {
            asked[FORCE] = force;
            asked[PACE] = pace;
            asked[ANGLE] = angle;
        }

        void askState(int wear, int thrown) {
            asked[WEARING] = wear;
            asked[THROWN] = thrown;
        }

        void askBest(int best) {
            asked[BEST] = best / 100;
        }

        int tell(Law law, int word) {
            return hold(law.tell(word, asked), 0, 1000);
        }
    }

    /** One spear in the air. */
    static final class Flight {
        static final int MOST_TICKS = 400;
        static final int FORE = 0;
        static final int UP = 1;
        static final int HEIGHT = 2;
        static final int PITCH = 3;
        static final int WIND = 4;
        static final int SIDE = 5;
        static final int SOFT = 6;
        static final int TIP = 7;
        static final int TICK = 8;
        private static final int LIFT = 0;
        private static final int DRAG = 1;
        private static final int DIP = 2;
        private static final int DRIFT = 3;

        /** All that THE LAW OF FLIGHT asks. */
        final int[] is = new int[9];
        int far;
        int off;
        int top;
        private int out;

        void begin(World w, int force, int angle, int lie, int spear, int wind, int side) {
            is[FORE] = 3 * force * sine(RIGHT_ANGLE - angle) / 1000;
            is[UP] = 3 * force * sine(angle) / 1000;
            is[HEIGHT] = 180;
            is[PITCH] = angle + lie;
            is[WIND] = wind;
            is[SIDE] = side;
            is[SOFT] = w.hasSpear(spear) ? w.soft[spear] : 0;
            is[TIP] = w.hasSpear(spear) ? w.tip[spear] : 0;
            is[TICK] = 0;
            far = 0;
            off = 0;
            out = 0;
            top = 180;
        }

        private static int sine(int a) {
            int arc = a * (180 - a);
            return a < 0 || a > RIGHT_ANGLE ? 0 : 4000 * arc / (40500 - arc);
        }

        void go(Law law, int ticks) {
            for (int t = 0; t < ticks && t < MOST_TICKS && is[HEIGHT] > 0; t++) {
                tick(law);
            }
        }

        /** All is asked before anything changes. */
        private void tick(Law law) {
            int lift = hold(law.tell(LIFT, is), -20, 20);
            int drag = hold(law.tell(DRAG, is), 0, 50);
            int dip = hold(law.tell(DIP, is), -9, 9);
            int drift = hold(law.tell(DRIFT, is), -9, 9);
            is[UP] += lift - 10;
            is[FORE] = Math.max(0, is[FORE] - drag);
            is[PITCH] -= dip;
            out += drift;
            far += is[FORE];
            is[HEIGHT] += is[UP];
            off += out;
            top = Math.max(top, is[HEIGHT]);
            is[TICK]++;
        }

        /** 0 POINT first, 1 FLAT, 2 TAIL first. */
        int landing() {
            return is[PITCH] < 0 ? 0 : is[PITCH] <= 9 ? 1 : 2;
        }

        int how(int sector) {
            int landing = landing();
            if (landing > 0) {
                return landing + 1;
            }
            return Math.abs(off) * sector <= far ? GOOD : ASIDE;
        }
    }

    /** Flights that stay thoughts, by the lie 0 and by SIDE as it is. */
    static final class Thought {
        final Flight flight = new Flight();
        /** NONE both where no angle was found. */
        int foundAngle;
        int foundFar;
        private final int[] fars = new int[RIGHT_ANGLE + 1];

        int far(World w, int force, int angle, int spear, int wind) {
            flight.begin(w, force, angle, 0, spear, wind, w.told[World.SIDE]);
            flight.go(w.flight, Flight.MOST_TICKS);
            return flight.far;
        }

        /** NONE if it is not GOOD. */
        int goodFar(World w, int force, int angle, int spear, int wind) {
            flight.begin(w, force, angle, 0, spear, wind, w.told[World.SIDE]);
            flight.go(w.flight, Flight.MOST_TICKS);
            return flight.how(w.told[World.SECTOR]) == GOOD ? flight.far : NONE;
        }

        void findAngle(World w, int force, int spear, int wind) {
            foundAngle = NONE;
            foundFar = NONE;
            for (int a = 0; a <= MOST_ANGLE; a++) {
                found(a, goodFar(w, force, a, spear, wind));
            }
        }

        void findSafe(World w, int force, int spear, int wind) {
            int slip = w.told[World.SLIP];
            for (int a = 0; a <= RIGHT_ANGLE && a <= MOST_ANGLE + slip; a++) {
                fars[a] = goodFar(w, force, a, spear, wind);
            }
            foundAngle = NONE;
            foundFar = NONE;
            for (int a = 0; a <= MOST_ANGLE; a++) {
                found(a, leastAround(a, slip));
            }
        }

        /** NONE if one of them is not GOOD. */
        private int leastAround(int angle, int slip) {
            int least = fars[hold(angle, 0, RIGHT_ANGLE)];
            for (int s = -slip; s <= slip; s++) {
                least = Math.min(least, fars[hold(angle + s, 0, RIGHT_ANGLE)]);
            }
            return least;
        }

        private void found(int angle, int far) {
            if (far > foundFar) {
                foundFar = far;
                foundAngle = angle;
            }
        }

        /** The least angle by which a force is GOOD and comes to a mark; NONE if none. */
        int angleFor(World w, int force, int spear, int wind, int mark) {
            for (int a = 0; a <= MOST_ANGLE; a++) {
                int far = goodFar(w, force, a, spear, wind);
                if (far != NONE && far >= mark) {
                    return a;
                }
            }
            return NONE;
        }
    }

    /** What was before each of the latest THROWS and PASSES. */
    static final class Past {
        private static final int KEPT = 8;
        private static final int STATE = 0;
        private static final int LINES = 1;
        private static final int ROUND = 2;
        private static final int TURN = 3;
        private static final int WEAR = 4;
        private static final int BEST = 5;
        private static final int THROWN = 6;
        private static final int NEXT = 7;

        int count;
        private int latest;
        private final int[][] rows = new int[KEPT][8];

        void forget() {
            count = 0;
        }

        void remember(World w, Thrower t) {
            latest = (latest + 1) % KEPT;
            count = Math.min(KEPT, count + 1);
            int[] row = rows[latest];
            row[STATE] = w.state;
            row[LINES] = w.lines;
            row[ROUND] = w.round;
            row[TURN] = w.turn;
            row[WEAR] = t.wear;
            row[BEST] = t.best;
            row[THROWN] = t.thrown;
            row[NEXT] = t.next;
        }

        boolean goBack(World w) {
            int[] row = rows[latest];
            Thrower t = w.one(row[TURN]);
            if (count == 0 || t == null) {
                return false;
            }
            w.state = row[STATE];
            w.lines = row[LINES];
            w.round = row[ROUND];
            w.turn = row[TURN];
            t.wear = row[WEAR];
            t.best = row[BEST];
            t.thrown = row[THROWN];
            t.next = row[NEXT];
            count--;
            latest = (latest + KEPT - 1) % KEPT;
            return true;
        }
    }

    /** The best of all ways to throw at a mark. */
    static final class Chances {
        static final int FORCES = 10;
        private static final int ALL = 1000000;

        /** Of each force whether it is GOOD and comes to the mark. */
        final boolean[] reaches = new boolean[FORCES];
        int most;
        int force;
        private final Arms arms = new Arms();
        private final int[][] known = new int[World.ROUNDS + 1][MOST_WEAR];
        private Law law;
        private int angle;
        /** How many of the forces he can choose: those above his POWER are left out. */
        private int forces;
        private int thrown;

        static int choice(int i) {
            return 54 + 5 * i;
        }

        private static int upTo(int power) {
            int n = 0;
            while (n < FORCES && choice(n) <= power) {
                n++;
            }
            return n;
        }

        void weigh(World w, Thrower t, int left, int byAngle) {
            law = w.arms;
            angle = byAngle;
            forces = upTo(t.power);
            thrown = t.thrown + left;
            arms.ask(t, w.round);
            for (int i = 0; i <= left && i < known.length; i++) {
                Arrays.fill(known[i], NONE);
            }
            most = 0;
            force = 0;
            for (int i = 0; i < forces && left > 0 && t.wear < MOST_WEAR; i++) {
                int chance = by(i, left, t.wear);
                if (chance > most) {
                    most = chance;
                    force = choice(i);
                }
            }
        }

        private int by(int i, int left, int wear) {
            arms.askThrow(choice(i), 0, angle);
            arms.askState(wear, thrown - left);
            int sure = i >= 0 && i < FORCES && reaches[i] ? ALL - 1000 * arms.tell(law, Arms.OVER) : 0;
            int then = greatest(left - 1, Math.min(MOST_WEAR, wear + arms.tell(law, Arms.WEAR)));
            return sure + (int) ((long) (ALL - sure) * then / ALL);
        }

        private int greatest(int left, int wear) {
            if (left <= 0 || left >= known.length || wear < 0 || wear >= MOST_WEAR) {
                return 0;
            }
            if (known[left][wear] != NONE) {
                return known[left][wear];
            }
            int found = 0;
            for (int i = 0; i < forces; i++) {
                found = Math.max(found, by(i, left, wear));
            }
            known[left][wear] = found;
            return found;
        }
    }

    /** All that WEEKS of training can come to, by POWER and WEAR. */
    static final class Training {
        private static final int GAIN = 0;
        private static final int COST = 1;
        /** Sixteen WEARS stand in a long, four bits each: by how many hundreds in the first WEEK. */
        private static final int ROW = MOST_WEAR / 16 + 1;

        int power;
        int hundreds;
        private long[] here = new long[(MOST_POWER + 1) * ROW];
        private long[] there = new long[(MOST_POWER + 1) * ROW];
        private final int[] asked = new int[4];

        void begin(int itsPower, int wear) {
            Arrays.fill(here, 0L);
            put(here, itsPower, wear, 15);
        }

        private static void put(long[] row, int power, int wear, int firsts) {
            int i = power * ROW + wear / 16;
            if (i >= 0 && i < row.length) {
                row[i] |= (long) firsts << (wear % 16 * 4);
            }
        }

        void week(Law law, int week, int most) {
            Arrays.fill(there, 0L);
            for (int i = 0; i < here.length; i++) {
                long sixteen = here[i];
                for (int k = 0; k < 16 && sixteen != 0L; k++) {
                    int firsts = (int) (sixteen & 15L);
                    if (firsts != 0) {
                        spread(law, week, most, i / ROW, i % ROW * 16 + k, firsts);
                    }
                    sixteen >>>= 4;
                }
            }
            long[] old = here;
            here = there;
            there = old;
        }

        private void spread(Law law, int week, int most, int from, int wear, int firsts) {
            for (int balls = 0; balls <= 3; balls++) {
                asked[0] = balls;
                asked[1] = from;
                asked[2] = wear;
                asked[3] = week;
                int more = hold(law.tell(GAIN, asked), 0, 9);
                int worn = hold(wear + hold(law.tell(COST, asked), -200, 200), 0, MOST_WEAR);
                if (worn <= most) {
                    put(there, Math.min(MOST_POWER, from + more), worn, week == 0 ? 1 << balls : firsts);
                }
            }
        }

        /** The greatest POWER and the fewest hundreds; NONE both if no way was left. */
        void judge() {
            power = NONE;
            hundreds = NONE;
            long firsts = 0L;
            for (int i = here.length - 1; i >= 0; i--) {
                if (here[i] != 0L && (power == NONE || i / ROW == power)) {
                    power = i / ROW;
                    firsts |= here[i];
                }
            }
            for (int balls = 3; balls >= 0; balls--) {
                if ((firsts & 0x1111111111111111L << balls) != 0L) {
                    hundreds = balls;
                }
            }
        }
    }
}
