/** Terms, 2, and promises 6 to 9: each boundary of a text, a token, a fault, and of what a law tells. */
final class EdgeTextTest {
    private static final String[] COMMON = {"when", "or", "and", "not"};
    private static final String[][] LEADS = {{"lift", "drag", "dip", "drift"}, {"over", "wear", "mend"},
        {"throw", "pass"}, {"gain", "cost"}};
    private static final String[][] ASKS = {
        {"fore", "up", "height", "pitch", "wind", "side", "soft", "tip", "tick"},
        {"force", "pace", "angle", "wearing", "power", "thrown", "best", "round"},
        {"at", "with", "pace", "below"},
        {"balls", "power", "wearing", "week"}};
    private static final int[] LAWS = {0, 1, 3};

    private EdgeTextTest() {
    }

    public static void main(String[] args) {
        empty();
        keywords();
        bytes();
        numbers();
        blanks();
        lettersTogether();
        whatCantStand();
        theEnd();
        partByZero();
        seventeenthLine();
        ninthOpen();
        orders();
        ordersByNumber();
        thirteenthOrder();
        firstByPlace();
        latestText();
        anotherText();
        tape();
        sums();
        comparisons();
        wraps();
        towardsZero();
        firstLine();
        longLaws();
        Due.finish();
    }

    private static boolean has(String[] words, String word) {
        for (String w : words) {
            if (w.equals(word)) {
                return true;
            }
        }
        return false;
    }

    /** Empty at first, and an empty TAPE is a text of no lines. */
    private static void empty() {
        PointFirst x = Due.ready();
        for (int k : LAWS) {
            Due.law(x, k, LEADS[k][0] + " 1;", 1);
            Due.due("no bytes, text " + k, x.text(k, 0), 0);
            Due.law(x, k, " ".repeat(400), 0);
            Due.due("look of law " + k, x.look(k == 3 ? 11 : 7 + k), 0);
        }
        Due.plan(x, 0, "pass;", 1);
        Due.due("no bytes, a plan", x.text(2, 0), 0);
        Due.due("no orders", x.of(0, 6), 0);
        PointFirst y = new PointFirst();
        y.spear(0, 0);
        y.thrower(10);
        Due.due("no law of flight at first", y.fly(10, 0, 0, 0, 0, 0, 6), 0);
        Due.due("no law of arms at first", y.holds(0, 10, 10), 60);
        Due.due("no law of training at first", y.train(0, 12, 0, 0), 10);
        Due.due("no plan at first", y.turnsGo(6), 0);
    }

    /** A word is a keyword in the texts that it is told for, and none in the others. */
    private static void keywords() {
        for (int k : LAWS) {
            for (int of = 0; of < 4; of++) {
                PointFirst x = Due.ready();
                for (String word : LEADS[of]) {
                    if (of == k) {
                        Due.law(x, k, word + " 1;", 1);
                    } else {
                        Due.fault(x, k, word + " 1;", 1, 0);
                    }
                    Due.fault(x, k, LEADS[k][0] + " " + word + ";", 1, LEADS[k][0].length() + 1);
                }
                for (String word : ASKS[of]) {
                    Due.fault(x, k, word + " 1;", 1, 0);
                    if (has(ASKS[k], word)) {
                        Due.law(x, k, LEADS[k][0] + " " + word + ";", 1);
                        Due.law(x, k, LEADS[k][0] + " 1 when " + word + "<" + word + ";", 1);
                    } else {
                        Due.fault(x, k, LEADS[k][0] + " " + word + ";", 1, LEADS[k][0].length() + 1);
                    }
                }
            }
            PointFirst x = Due.ready();
            for (String word : COMMON) {
                Due.fault(x, k, word + " 1;", 1, 0);
                Due.fault(x, k, LEADS[k][0] + " " + word, 1, LEADS[k][0].length() + 1);
            }
        }
        PointFirst x = Due.ready();
        for (int of = 0; of < 4; of++) {
            for (String word : LEADS[of]) {
                if (of != 2) {
                    Due.fault(x, 2, word + " 1;", 1, 0);
                }
            }
            for (String word : ASKS[of]) {
                Due.fault(x, 2, word + ";", 1, 0);
            }
        }
        for (String word : COMMON) {
            Due.fault(x, 2, word + ";", 1, 0);
        }
    }

    /** Each of the bytes 0 to 255 behind "lift 1" and ahead of ";". */
    private static void bytes() {
        for (int from = 0; from < 256; from += 32) {
            PointFirst x = Due.ready();
            for (int sign = from; sign < from + 32; sign++) {
                String text = "lift 1" + (char) sign + ";";
                boolean blank = sign == 32 || sign == 10;
                boolean digit = sign >= '0' && sign <= '9';
                boolean between = "+-*/;".indexOf(sign) >= 0;
                if (blank || digit) {
                    Due.law(x, 0, text, 1);
                } else {
                    Due.fault(x, 0, text, 1, between ? 7 : 6);
                }
            }
        }
        PointFirst x = Due.ready();
        for (char c = 'a'; c <= 'z'; c++) {
            Due.fault(x, 0, "lift" + c + " 1;", 1, 0);
            Due.fault(x, 0, "lift" + Character.toUpperCase(c) + " 1;", 1, 0);
        }
    }

    private static void numbers() {
        PointFirst x = Due.ready();
        for (String n : new String[] {"0", "9", "00", "99", "000", "999", "0000", "9999"}) {
            Due.law(x, 3, "gain " + n + ";", 1);
            Due.due("gain " + n, x.train(0, 1, 0, 0), 99);
        }
        for (String n : new String[] {"00000", "00001", "10000", "99999", "000000", "1234567890"}) {
            Due.fault(x, 3, "gain " + n + ";", 1, 5);
            Due.fault(x, 3, "gain 1/" + n + ";", 1, 7);
            Due.fault(x, 2, "throw " + n + " at 1 with 0;", 1, 6);
            Due.fault(x, 2, "throw 1 at 1 with 0 below " + n + ";", 1, 26);
        }
        Due.fault(x, 3, "gain 1 2;", 1, 7);
        Due.law(x, 3, "gain 1234+5678;", 1);
        x.set(5, 0, 50);
        Due.law(x, 3, "gain 0007;", 1);
        Due.due("0007 is 7", x.train(0, 1, 0, 0), 57);
        Due.law(x, 3, "gain 2 when 1234=1*1000+2*100+3*10+4;", 1);
        Due.due("1234", x.train(0, 1, 0, 0), 52);
    }

    /** Blanks may stand between tokens, as many as one likes, or none; inside of one they end it. */
    private static void blanks() {
        PointFirst x = Due.ready();
        Due.law(x, 0, "\n\n lift \n 1 \n ; \n", 1);
        Due.law(x, 0, "lift1when1<2and2<3or not(1=2);dip2;", 2);
        Due.law(x, 0, "lift 1 * 2 / 3 + 4 - 5 when ( 1 < 2 ) ;", 1);
        Due.fault(x, 0, "li ft 1;", 1, 0);
        Due.fault(x, 0, "lift 1 when1 < 2 an d 1<2;", 1, 17);
        Due.fault(x, 0, "lift 1\t;", 1, 6);
        Due.fault(x, 0, "lift 1\r\n;", 1, 6);
        Due.fault(x, 0, "lift 1\f;", 1, 6);
        Due.fault(x, 0, "lift 1\u00a0;", 1, 6);
        Due.fault(x, 0, "lift 1\u008a;", 1, 6);
        Due.fault(x, 0, "\tlift 1;", 1, 0);
        Due.law(x, 1, "over1;", 1);
        Due.plan(x, 0, "throw1at2with0pace3below4;pass;", 2);
    }

    private static void lettersTogether() {
        PointFirst x = Due.ready();
        Due.fault(x, 0, "liftdip 1;", 1, 0);
        Due.fault(x, 0, "lift upup;", 1, 5);
        Due.fault(x, 0, "lift 1 whenup<1;", 1, 7);
        Due.fault(x, 0, "lift u;", 1, 5);
        Due.fault(x, 0, "lift Up;", 1, 5);
        Due.fault(x, 0, "LIFT 1;", 1, 0);
        Due.fault(x, 0, "lift 1 when not1=1 andup<1;", 1, 19);
        Due.fault(x, 0, "lift 1 when notup<1;", 1, 12);
        Due.law(x, 0, "lift 1 when not1=1;", 1);
        Due.fault(x, 0, "lift 1up;", 1, 6);
        Due.law(x, 0, "lift 1when up<1;", 1);
        Due.fault(x, 1, "force 1;", 1, 0);
        Due.fault(x, 1, "over for;", 1, 5);
        Due.fault(x, 1, "over forces;", 1, 5);
    }

    /** Of each place in a line what can't stand there. */
    private static void whatCantStand() {
        String[] texts = {"1;", ";", "+1;", "(1);", "lift ;", "lift +1;", "lift -1;", "lift *1;", "lift /1;",
            "lift (1);", "lift )1;", "lift <1;", "lift lift;", "lift when 1<2;", "lift not 1<2;", "lift 1 1;",
            "lift 1 up;", "lift 1(", "lift 1)", "lift 1<", "lift 1=", "lift 1>", "lift 1 and", "lift 1 or", "lift 1 not",
            "lift 1++1;", "lift 1+-1;", "lift 1*/1;", "lift 1**1;", "lift 1+;", "lift 1*;", "lift 1/;", "lift 1/up;",
            "lift 1/(1);", "lift 1//1;", "lift 1;;", "lift 1 when;", "lift 1 when 1;", "lift 1 when 1+;",
            "lift 1 when <1;", "lift 1 when 1<;", "lift 1 when 1<<2;", "lift 1 when 1<=2;", "lift 1 when 1=<2;",
            "lift 1 when 1<2<3;", "lift 1 when ();", "lift 1 when (1);", "lift 1 when (1<2;", "lift 1 when 1<2);",
            "lift 1 when (1<2)<3;", "lift 1 when (1<2)+1;", "lift 1 when (1)<2;", "lift 1 when 1<(2);",
            "lift 1 when 1<2 and;", "lift 1 when 1<2 or;", "lift 1 when 1<2 and or 1<2;", "lift 1 when and 1<2;",
            "lift 1 when or 1<2;", "lift 1 when not;", "lift 1 when not and 1<2;", "lift 1 when 1<2 not 1<2;",
            "lift 1 when 1<not 2;", "lift 1 when 1<2 when 1<2;", "lift 1 when 1<2 lift 1;", "lift 1 when 1<2 1;",
            "lift 1 when (1<2 and);", "lift 1 when (1<2)(1<2);", "lift 1 dip 1;"};
        int[] places = {0, 0, 0, 0, 5, 5, 5, 5, 5, 5, 5, 5, 5, 5, 5, 7, 7, 6, 6, 6, 6, 6, 7, 7, 7, 7, 7, 7, 7, 7, 7, 7, 7,
            7, 7, 7, 11, 13, 14, 12, 14, 14, 14, 14, 15, 13, 14, 16, 15, 17, 17, 14, 14, 19, 18, 20, 12, 12, 15, 16, 16,
            14, 16, 16, 16, 20, 17, 7};
        Due.due("as many places", places.length, texts.length);
        for (int i = 0; i < texts.length; i += 40) {
            PointFirst x = Due.ready();
            for (int k = i; k < texts.length && k < i + 40; k++) {
                Due.fault(x, 0, texts[k], 1, places[k]);
            }
        }
    }

    /** The end can't stand where a text is not yet whole: its place is the text's length, blanks and all. */
    private static void theEnd() {
        String[] texts = {"lift", "lift ", "lift 1", "lift 1  ", "lift 1+", "lift 1*", "lift 1/", "lift 1 when",
            "lift 1 when 1", "lift 1 when 1<", "lift 1 when 1<2", "lift 1 when (", "lift 1 when (1<2",
            "lift 1 when (1<2)", "lift 1 when not", "lift 1 when 1<2 and", "lift 1 when 1<2 or ", "lift 1;dip",
            "lift 1; dip 2 \n "};
        PointFirst x = Due.ready();
        for (String text : texts) {
            Due.fault(x, 0, text, 1, text.length());
        }
        String[] plans = {"throw", "throw 1", "throw 1 at", "throw 1 at 1", "throw 1 at 1 with", "throw 1 at 1 with 0",
            "throw 1 at 1 with 0 pace", "throw 1 at 1 with 0 pace 1", "throw 1 at 1 with 0 pace 1 below",
            "throw 1 at 1 with 0 below 1", "pass", "pass;pass ", "pass;throw\n"};
        for (String text : plans) {
            Due.fault(x, 2, text, 1, text.length());
        }
        Due.fault(x, 0, " ".repeat(396) + "lift", 1, 400);
        Due.fault(x, 0, "lift" + " ".repeat(396), 1, 400);
        Due.law(x, 0, " ".repeat(393) + "lift 1;", 1);
    }

    private static void partByZero() {
        PointFirst x = Due.ready();
        for (int k : LAWS) {
            String lead = LEADS[k][0] + " ";
            int at = lead.length();
            for (String zero : new String[] {"0", "00", "000", "0000"}) {
                Due.fault(x, k, lead + "7/" + zero + ";", 2, at + 2);
            }
            Due.law(x, k, lead + "7/1;", 1);
            Due.law(x, k, lead + "0/1;", 1);
            Due.law(x, k, lead + "7*0;", 1);
            Due.law(x, k, lead + "7/9999;", 1);
            Due.fault(x, k, lead + "7 / \n 0;", 2, at + 6);
            Due.fault(x, k, lead + "7/3/0;", 2, at + 4);
            Due.fault(x, k, lead + "7*3/0*2;", 2, at + 4);
            Due.fault(x, k, lead + "1+7/0;", 2, at + 4);
            Due.fault(x, k, lead + "1 when 7/0<1;", 2, at + 9);
            Due.fault(x, k, lead + "1 when 7<1/0;", 2, at + 11);
            Due.fault(x, k, lead + "1 when (7<1/0", 2, at + 12);
        }
    }

    private static void seventeenthLine() {
        for (int k : LAWS) {
            PointFirst x = Due.ready();
            String line = LEADS[k][0] + " 1;";
            String other = LEADS[k][1] + " 2;";
            int sixteen = 16 * line.length();
            Due.law(x, k, line.repeat(15), 15);
            Due.law(x, k, line.repeat(16), 16);
            Due.fault(x, k, line.repeat(17), 3, sixteen);
            Due.fault(x, k, line.repeat(16) + "  " + other, 3, sixteen + 2);
            Due.fault(x, k, line.repeat(16) + LEADS[k][1], 3, sixteen);
            Due.fault(x, k, line.repeat(16) + LEADS[k][0] + "/0", 3, sixteen);
            Due.fault(x, k, line.repeat(16) + ";" + line, 1, sixteen);
            Due.fault(x, k, line.repeat(16) + "when", 1, sixteen);
            Due.fault(x, k, line.repeat(15) + LEADS[k][0] + " 1/0;" + line, 2, sixteen);
            Due.due("sixteen lines as they were", x.look(k == 3 ? 11 : 7 + k), 16);
        }
    }

    private static void ninthOpen() {
        PointFirst x = Due.ready();
        String head = "lift 1 when ";
        for (int deep = 1; deep <= 10; deep++) {
            String in = "(".repeat(deep) + "1=1" + ")".repeat(deep) + ";";
            String not = "not ".repeat(deep) + "1=1;";
            if (deep <= 8) {
                Due.law(x, 0, head + in, 1);
                Due.law(x, 0, head + not, 1);
            } else {
                Due.fault(x, 0, head + in, 3, 12 + 8);
                Due.fault(x, 0, head + not, 3, 12 + 32);
            }
        }
        for (int nots = 0; nots <= 8; nots++) {
            String eight = "not ".repeat(nots) + "(".repeat(8 - nots);
            String close = ")".repeat(8 - nots) + ";";
            int at = 12 + eight.length();
            Due.law(x, 0, head + eight + "1=1" + close, 1);
            Due.fault(x, 0, head + eight + "(1=1)" + close, 3, at);
            Due.fault(x, 0, head + eight + "not 1=1" + close, 3, at);
            Due.fault(x, 0, head + eight + ")", 1, at);
        }
        // what is closed is open no more
        Due.law(x, 0, head + "not not not not not not not not 1=1 and not not not not not not not not 1=1;", 1);
        Due.law(x, 0, head + "((((((((1=1)))))))) or ((((((((1=1))))))));", 1);
        Due.law(x, 0, head + "(((((((not 1=1 and not 1=1)))))));", 1);
        Due.law(x, 0, head + "(((((((not 1=1) and (1=1)))))));", 1);
        Due.fault(x, 0, head + "((((((((1=1 and not 1=1))))))));", 3, 12 + 8 + 8);
        Due.fault(x, 0, head + "((((((((1=1)) and (((1=1;", 3, 12 + 8 + 3 + 2 + 5 + 2);
        Due.law(x, 0, head + "((((((((1=1))))))));dip 2 when ((((((((1=1))))))));", 2);
        // in a sum no ( can stand at all, so the ninth is the lesser fault
        Due.fault(x, 0, head + "((((((((1+(1=1", 1, 12 + 10);
    }

    /** Each of an order's parts: what stands there, and what can't. */
    private static void orders() {
        PointFirst x = Due.ready();
        String[] fine = {"throw 1 at 2 with 0;", "throw 1 at 2 with 0 pace 3;", "throw 1 at 2 with 0 below 4;",
            "throw 1 at 2 with 0 pace 3 below 4;", "pass;"};
        for (String text : fine) {
            Due.plan(x, 0, text, 1);
            Due.plan(x, 0, text + text, 2);
        }
        Due.plan(x, 0, String.join("", fine), 5);
        String[] bad = {"throw 1 at 2 with 0 below 4 pace 3;", "throw 1 at 2 with 0 pace 3 pace 3;",
            "throw 1 at 2 with 0 below 4 below 4;", "throw 1 at 2;", "throw 1 with 0;", "throw at 2 with 0;",
            "throw 1 2 with 0;", "throw 1 at with 0;", "throw 1 at 2 0;", "throw 1 at 2 with;", "throw 1 at 2 with 0 3;",
            "throw 1 at 2 with 0 pace;", "throw 1 at 2 with 0 below;", "throw 1+1 at 2 with 0;", "throw force at 2 with 0;",
            "pass 1;", "pass pace 3;", "pass pass;", "pass;;", ";", "1;", "throw 1 at 2 with 0 pass;"};
        int[] places = {28, 27, 28, 12, 8, 6, 8, 11, 13, 17, 20, 24, 25, 7, 6, 5, 5, 5, 5, 0, 0, 20};
        for (int i = 0; i < bad.length; i++) {
            Due.fault(x, 2, bad[i], 1, places[i]);
        }
    }

    private static void ordersByNumber() {
        PointFirst x = Due.ready();
        x.spear(1, 1);
        Due.plan(x, 0, "throw 0 at 0 with 0 pace 0 below 0;throw 99 at 60 with 1 pace 9 below 9999;", 2);
        Due.plan(x, 0, "throw 0099 at 0060 with 0001 pace 0009 below 0000;", 1);
        Due.fault(x, 2, "throw 100 at 60 with 1;", 2, 6);
        Due.fault(x, 2, "throw 9999 at 60 with 1;", 2, 6);
        Due.fault(x, 2, "throw 99 at 61 with 1;", 2, 12);
        Due.fault(x, 2, "throw 99 at 60 with 2;", 2, 20);
        Due.fault(x, 2, "throw 99 at 60 with 1 pace 10;", 2, 27);
        Due.fault(x, 2, "pass;throw 100 at 61 with 2 pace 10;", 2, 11);
        x.spear(2, 2);
        Due.plan(x, 0, "throw 99 at 60 with 2;", 1);
        Due.fault(x, 2, "throw 99 at 60 with 3;", 2, 20);
        PointFirst y = new PointFirst();
        y.thrower(1);
        Due.fault(y, 2, "throw 99 at 60 with 0;", 2, 20);
        Due.plan(y, 0, "pass;", 1);
    }

    private static void thirteenthOrder() {
        PointFirst x = Due.ready();
        Due.plan(x, 0, "pass;".repeat(11), 11);
        Due.plan(x, 0, "pass;".repeat(12), 12);
        Due.plan(x, 0, "throw 1 at 2 with 0;".repeat(12), 12);
        Due.fault(x, 2, "pass;".repeat(13), 3, 60);
        Due.fault(x, 2, "throw 1 at 2 with 0;".repeat(12) + " pass", 3, 241);
        Due.fault(x, 2, "pass;".repeat(12) + "throw 100", 3, 60);
        Due.fault(x, 2, "pass;".repeat(12) + "below", 1, 60);
        Due.fault(x, 2, "pass;".repeat(12) + ";", 1, 60);
        Due.due("twelve as they were", x.of(0, 6), 12);
    }

    private static void firstByPlace() {
        PointFirst x = Due.ready();
        Due.fault(x, 0, "lift 1/0;lift", 2, 7);
        Due.fault(x, 0, "lift ;lift 1/0;", 1, 5);
        Due.fault(x, 0, "lift 1/0 when (((((((((", 2, 7);
        Due.fault(x, 0, "lift 1 when ((((((((( 1/0", 3, 20);
        Due.fault(x, 0, "lift 1;".repeat(16) + "lift 1/0;", 3, 112);
        Due.fault(x, 0, "lift 1/00000;lift 1/0;", 1, 7);
        Due.fault(x, 2, "throw 100 at 61;", 2, 6);
        Due.fault(x, 2, "throw 1 at 61 with 9;", 2, 11);
        Due.fault(x, 2, "throw 1 at 1 with 9 pace 10;", 2, 18);
        Due.fault(x, 2, "throw 1 at 1 width 9;", 1, 13);
    }

    /** fault() is of the latest text(). */
    private static void latestText() {
        PointFirst x = Due.ready();
        Due.fault(x, 0, "lift 1/0;", 2, 7);
        Due.law(x, 1, "wear 1;", 1);
        Due.fault(x, 3, "gain 1;".repeat(17), 3, 112);
        Due.plan(x, 0, "", 0);
        Due.fault(x, 2, "pass", 1, 4);
        Due.due("no such text", x.text(4, 0), -1);
        Due.due("it tells 0", x.fault(0), 0);
        Due.due("and no place", x.fault(1), -1);
        Due.fault(x, 2, "pass", 1, 4);
        Due.due("no such thrower", Due.tell(x, 2, 1, "pass"), -1);
        Due.due("that tells 0 too", x.fault(0), 0);
        Due.due("and no place either", x.fault(1), -1);
        Due.fault(x, 2, "pass", 1, 4);
        x.feed(0, 0, 0, 0, 0);
        x.end(0);
        x.throwIt(1, 1, 0, 0);
        Due.due("nothing else changes it", x.fault(0), 1);
        Due.due("nor its place", x.fault(1), 4);
    }

    /** The TAPE is the TEXT, whole: nothing of the one before is left; and only that one text is told. */
    private static void anotherText() {
        PointFirst x = Due.ready();
        x.thrower(50);
        Due.law(x, 0, "dip 1;drift 1;drag 1;", 3);
        Due.law(x, 0, "lift 0;", 1);
        Due.due("no dip is left", x.fly(10, 0, 0, 0, 0, 0, 6), 0);
        Due.due("no drift", x.fly(10, 0, 0, 0, 0, 0, 2), 0);
        Due.due("no drag", x.fly(10, 0, 0, 0, 0, 0, 0), 180);
        Due.law(x, 1, "wear 500;mend 9;", 2);
        Due.law(x, 3, "gain 3;", 1);
        Due.due("the law of flight is another", x.look(7), 1);
        Due.due("the law of arms too", x.holds(0, 1, 1), 2);
        Due.law(x, 1, "mend 9;", 1);
        Due.due("no wear is left", x.holds(0, 1, 1), 60);
        Due.due("nor is training another", x.train(1, 1, 0, 0), 53);
        Due.plan(x, 1, "pass;pass;pass;", 3);
        Due.due("his alone", x.of(0, 6), 0);
        Due.plan(x, 0, "pass;", 1);
        x.turnsGo(2);
        Due.due("two of three are left", x.of(1, 6), 2);
        Due.plan(x, 1, "pass;pass;", 2);
        Due.due("he begins with its first", x.of(1, 6), 2);
        Due.due("the other goes on", x.of(0, 6), 0);
    }

    private static void tape() {
        PointFirst x = Due.ready();
        Due.due("nothing yet", x.end(0), true);
        Due.due("not one", x.end(1), false);
        Due.due("twenty", x.feed('g' << 24 | 'a' << 16 | 'i' << 8 | 'n', ' ' << 24 | '1' << 16 | ';' << 8 | 'x',
                -1, -1, -1), 20);
        Due.due("twenty-one are not", x.end(21), false);
        Due.due("as many as there are", x.end(20), true);
        Due.due("seven", x.end(7), true);
        Due.due("what is off is off", x.end(8), false);
        Due.due("behind the seven", x.feed('c' << 24 | 'o' << 16 | 's' << 8 | 't', ' ' << 24 | '2' << 16 | ';' << 8 | '!',
                0, 0, 0), 27);
        Due.due("fourteen", x.end(14), true);
        Due.due("two lines", x.text(3, 0), 2);
        Due.due("it is empty", x.end(1), false);
        for (int n = 20; n <= 380; n += 20) {
            Due.due("twenty more", x.feed(0, 0, 0, 0, 0), n);
        }
        Due.due("379", x.end(379), true);
        Due.due("399", x.feed(0, 0, 0, 0, 0), 399);
        Due.due("not 419", x.feed(0, 0, 0, 0, 0), -1);
        Due.due("399 as they were", x.end(400), false);
        Due.due("380", x.end(380), true);
        Due.due("400", x.feed(0, 0, 0, 0, 0), 400);
        Due.due("not 420", x.feed(0, 0, 0, 0, 0), -1);
        Due.due("below 0", x.end(-1), false);
        Due.due("none", x.end(0), true);
    }

    private static void gain(PointFirst x, String sum, int want) {
        Due.law(x, 3, "gain " + sum + ";", 1);
        Due.due("gain " + sum, x.train(0, 1, 1000, 0), 50 + want);
    }

    private static void sums() {
        PointFirst x = Due.ready();
        x.set(5, 0, 50);
        gain(x, "2+3*2", 8);
        gain(x, "2*3+2", 8);
        gain(x, "9-4-3", 2);
        gain(x, "9-4+3", 8);
        gain(x, "9-2*3", 3);
        gain(x, "8/2/2", 2);
        gain(x, "7/2*2", 6);
        gain(x, "2*7/2", 7);
        gain(x, "1+9/2", 5);
        gain(x, "9/2+1", 5);
        gain(x, "9/9999", 0);
        gain(x, "9-8/2*2+1*3", 4);
        gain(x, "0", 0);
        gain(x, "9", 9);
        gain(x, "10", 9);
        gain(x, "0-1", 0);
    }

    private static void so(PointFirst x, String when, boolean want) {
        Due.law(x, 3, "gain 4 when " + when + ";", 1);
        Due.due("when " + when, x.train(0, 1, 1000, 0), want ? 54 : 50);
    }

    private static void comparisons() {
        PointFirst x = Due.ready();
        x.set(5, 0, 50);
        String[] signs = {"<", "=", ">"};
        for (int way = -1; way <= 1; way++) {
            for (int k = 0; k < 3; k++) {
                so(x, (3 + way) + signs[k] + "3", way == k - 1);
                so(x, "not " + (3 + way) + signs[k] + "3", way != k - 1);
            }
        }
        String[] bits = {"1=2", "1=1"};
        for (int i = 0; i < 8; i++) {
            boolean a = (i & 4) > 0;
            boolean b = (i & 2) > 0;
            boolean c = (i & 1) > 0;
            String p = bits[i >> 2 & 1];
            String q = bits[i >> 1 & 1];
            String r = bits[i & 1];
            so(x, p + " and " + q + " or " + r, a && b || c);
            so(x, p + " or " + q + " and " + r, a || b && c);
            so(x, "(" + p + " or " + q + ") and " + r, (a || b) && c);
            so(x, "not " + p + " and " + q + " or " + r, !a && b || c);
            so(x, "not (" + p + " or " + q + ") or " + r, !(a || b) || c);
        }
    }

    /** Ints, which wrap. */
    private static void wraps() {
        PointFirst x = Due.ready();
        x.set(5, 0, 50);
        so(x, "9999*9999*21>0", true);
        so(x, "9999*9999*22<0", true);
        so(x, "9999*9999*21+9999*9999*21<0", true);
        so(x, "0-9999*9999*21-9999*9999*21>0", true);
        // 256 four times is 0, 256 twice times 128 twice is 2 to the 30, and 4 of it are 0 too
        so(x, "256*256*256*256=0", true);
        so(x, "256*256*128*128*2<0", true);
        so(x, "256*256*128*128*2-1>0", true);
        so(x, "0-256*256*128*128*2<0", true);
    }

    private static void towardsZero() {
        PointFirst x = Due.ready();
        Due.law(x, 0, "dip wind/2 when tick=0;", 1);
        int[] winds = {-3, -2, -1, 0, 1, 2, 3};
        int[] want = {1, 1, 0, 0, 0, -1, -1};
        for (int k = 0; k < winds.length; k++) {
            Due.due("dip by the wind " + winds[k], x.fly(10, 0, 0, 0, winds[k], 0, 6), want[k]);
        }
        Due.law(x, 0, "dip wind*3/4 when tick=0;", 1);
        Due.due("0-15/4 is -3", x.fly(10, 0, 0, 0, -5, 0, 6), 3);
        Due.law(x, 0, "dip 0-5/4 when tick=0;", 1);
        Due.due("0 less 1", x.fly(10, 0, 0, 0, 0, 0, 6), 1);
    }

    /** E of the first line with that word whose B is so, or that has none; 0 without one. */
    private static void firstLine() {
        PointFirst x = Due.ready();
        x.set(5, 0, 50);
        String[] laws = {"gain 1;gain 2;", "gain 1 when 1=1;gain 2;", "gain 1 when 1=2;gain 2;",
            "gain 1 when 1=2;gain 2 when 1=2;gain 3;", "gain 1 when 1=2;gain 2 when 1=1;gain 3 when 1=1;",
            "gain 1 when 1=2;", "cost 5;", "cost 5;gain 3;", "cost 5 when 1=2;gain 4;gain 5;",
            "gain 1 when 1=2;".repeat(15) + "gain 6;", "gain 0;gain 5;", "gain 0-5;gain 5;"};
        int[] want = {1, 1, 2, 3, 2, 0, 0, 3, 4, 6, 0, 0};
        for (int i = 0; i < laws.length; i++) {
            Due.due("text <" + laws[i] + ">", Due.tell(x, 3, 0, laws[i]) > 0, true);
            Due.due("gain of <" + laws[i] + ">", x.train(0, 1, 1000, 0), 50 + want[i]);
        }
    }

    /** What waits the most: in each of eight ( an or and an and, in the deepest a sum and a product; and sixteen lines. */
    private static void longLaws() {
        PointFirst x = Due.ready();
        x.set(5, 0, 50);
        String deep = "1=2 or 1=1 and (".repeat(8) + "1=2 or 1=1 and 3+2*3=1+2*4" + ")".repeat(8);
        so(x, deep, true);
        so(x, deep.replace("2*4", "2*5"), false);
        so(x, "not not not not not not not not 1=2 or 1=1 and not 1=2", true);
        Due.law(x, 3, "gain 2 when 1+1=1;cost 3;".repeat(7) + "gain 4 when 2+2*2=6 and 1=2 or 1=1;gain 5;", 16);
        Due.due("the fifteenth", x.train(0, 1, 1000, 0), 54);
        Due.law(x, 3, "gain 1*2+3*4-5*6 when 1+2=3 and 4<3;".repeat(10) + "gain 7;", 11);
        Due.due("the eleventh", x.train(0, 1, 1000, 0), 57);
        Due.law(x, 3, "gain 0" + "+1".repeat(185) + "-9*9-9*9-9*2-1;", 1);
        Due.due("185 less 162 less 18 less 1", x.train(0, 1, 1000, 0), 54);
        Due.law(x, 3, "gain 1" + "*1".repeat(190) + "+1;", 1);
        Due.due("1 and 1", x.train(0, 1, 1000, 0), 52);
        Due.law(x, 3, "gain 1 when 1=2" + " or 1=2".repeat(50) + " or 1=1;", 1);
        Due.due("the last or", x.train(0, 1, 1000, 0), 51);
        Due.law(x, 3, "gain 1 when 1=1" + " and 1=1".repeat(45) + " and 1=2;", 1);
        Due.due("the last and", x.train(0, 1, 1000, 0), 50);
    }
}
