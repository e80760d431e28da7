/** Each promise by calls whose answers were worked out by hand from the document. */
public final class Promises {
    private static final int NONE = -1, UNKNOWN = -1000000001, OUTSIDE = -1000000002, NOT = -1000000003, FULL = -1000000004;
    private static int wrong = 0;
    private static int promise = 0;

    public static void main(String[] args) {
        newObject();
        feed();
        land();
        landFaults();
        faultOrder();
        told();
        factAndPerson();
        sinceWeightBridge();
        tellAndForget();
        hour();
        hourForgets();
        tooManyHours();
        drift();
        heavyAndWhen();
        least();
        trips();
        counted();
        lies();
        apart();
        treaty();
        odds();
        scales();
        seedAndImages();
        fullLand();
        room();
        System.out.println(wrong == 0 ? "all promises are kept" : wrong + " answers are not as due");
        if (wrong != 0) {
            System.exit(1);
        }
    }

    private static void due(String call, int got, int want) {
        if (got != want) {
            wrong++;
            System.out.println("promise " + promise + ": " + call + " answered " + got + ", due is " + want);
        }
    }

    private static int tellText(KnownWeight x, String text) {
        for (int k = 0; k < text.length(); k++) {
            due("feed of letter " + k + " of " + text, x.feed(text.charAt(k)), k + 1);
        }
        return x.land();
    }

    private static KnownWeight of(String text) {
        KnownWeight x = new KnownWeight();
        int people = tellText(x, text);
        due("land() of " + text, people < 0 ? people : 0, 0);
        return x;
    }

    private static void dueFault(String text, int kind, int place) {
        KnownWeight x = new KnownWeight();
        due("land() of '" + text + "'", tellText(x, text), -10 - kind);
        due("fault() of '" + text + "'", x.fault(), place);
    }

    private static void dueGood(String text, int people) {
        KnownWeight x = new KnownWeight();
        due("land() of '" + text + "'", tellText(x, text), people);
        due("fault() of '" + text + "'", x.fault(), NONE);
    }

    private static void newObject() {
        promise = 1;
        KnownWeight x = new KnownWeight();
        for (int what = 0; what <= 9; what++) {
            due("told(" + what + ")", x.told(what), 0);
        }
        due("fault()", x.fault(), NONE);
        due("weight(0)", x.weight(0), UNKNOWN);
        due("bridge(0)", x.bridge(0), UNKNOWN);
        due("fact(0, 0)", x.fact(0, 0), UNKNOWN);
        due("person(0, 0)", x.person(0, 0), UNKNOWN);
        due("least(0, 0, -1)", x.least(0, 0, -1), UNKNOWN);
        due("judge()", x.judge(), NONE);
        due("tear()", x.tear(), 0);
        due("goBack(0)", x.goBack(0), NOT);
        due("keep(0)", x.keep(0), 1);
        due("goBack(0)", x.goBack(0), 1);
        due("seed(7)", x.seed(7), 0);
        due("NONE", KnownWeight.NONE, NONE);
        due("UNKNOWN", KnownWeight.UNKNOWN, UNKNOWN);
        due("OUTSIDE", KnownWeight.OUTSIDE, OUTSIDE);
        due("NOT", KnownWeight.NOT, NOT);
        due("FULL", KnownWeight.FULL, FULL);
    }

    private static void feed() {
        promise = 2;
        KnownWeight x = new KnownWeight();
        due("feed(-1)", x.feed(-1), OUTSIDE);
        due("feed(256)", x.feed(256), OUTSIDE);
        due("told(5)", x.told(5), 0);
        due("feed(0)", x.feed(0), 1);
        due("feed(255)", x.feed(255), 2);
        for (int k = 3; k <= 250; k++) {
            due("feed(32)", x.feed(32), k);
        }
        due("feed(32)", x.feed(32), FULL);
        due("feed(256)", x.feed(256), OUTSIDE);
        due("told(5)", x.told(5), 250);
        due("land()", x.land(), -11);
        due("fault()", x.fault(), 0);
        due("feed(32)", x.feed(32), 1);
    }

    private static void land() {
        promise = 3;
        KnownWeight x = new KnownWeight();
        due("seed(5)", x.seed(5), 0);
        due("land()", tellText(x, "t3;f0 2 0;k0 6;b4;g9;"), 3);
        due("hour(2)", x.hour(2), 2);
        due("write(0, 4)", x.write(0, 4), 1);
        due("keep(1)", x.keep(1), 1);
        due("land() of a fault", tellText(x, "t2;f0 2;"), -11);
        due("fault()", x.fault(), 7);
        due("told(0) as it was", x.told(0), 3);
        due("told(5) empty", x.told(5), 0);
        due("told(6) as it was", x.told(6), 2);
        due("told(9) as it was", x.told(9), 1);
        due("weight(0) as it was", x.weight(0), 4);
        due("goBack(1) as it was", x.goBack(1), 1);
        due("land() anew", tellText(x, "t2;f1 3 1;k0 1;"), 2);
        due("fault()", x.fault(), NONE);
        due("told(3)", x.told(3), 0);
        due("told(4)", x.told(4), 0);
        due("told(6)", x.told(6), 0);
        due("told(9)", x.told(9), 0);
        due("weight(1)", x.weight(1), -3);
        due("since(0, 0)", x.since(0, 0), 0);
        due("goBack(1) gone", x.goBack(1), NOT);
        due("seed(5) stays", x.seed(5), 5);
        due("land() of nothing", x.land(), 0);
        due("told(1)", x.told(1), 0);
        due("weight(1)", x.weight(1), UNKNOWN);
        due("land() of a blank", tellText(x, " "), 0);
        // the third land is made where the first one was: nothing of it may be left
        due("land()", tellText(x, "t7;f3 9 1;k0 127;w0 1;m2;m3;b7;g1;"), 7);
        due("land()", tellText(x, "t1;"), 1);
        due("land()", tellText(x, "t7;f3 2 0;w5 6;"), 7);
        int[] left = {7, 1, 1, 0, 0, 0, 0, 0, 0, 0};
        for (int what = 0; what <= 9; what++) {
            due("told(" + what + ") of the third", x.told(what), left[what]);
        }
        due("person(0, 0) of the third", x.person(0, 0), 0);
        due("person(3, 1) of the third", x.person(3, 1), 1);
        due("fact(0, 2) of the third", x.fact(0, 2), 0);
        due("fact(0, 3) of the third", x.fact(0, 3), 0);
        due("land()", tellText(x, "t7;f0 1 0;f0 1 0;k0 1;w0 1;"), 7);
        due("land()", tellText(x, "t7;f1 1 0;f1 1 0;k0 1;w0 1;"), 7);
        due("person(0, 2) of the fifth", x.person(0, 2), 1);
        due("land()", tellText(x, "t3;f0 1 0;f0 1 0;f0 1 0;k2 7;"), 3);
        due("land()", tellText(x, "t3;f0 1 0;k0 4;"), 3);
        due("person(2, 2): no fact of the land before", x.person(2, 2), 1);
        due("land()", x.land(), 0);
        due("land()", tellText(x, "t7;f1 1 0;"), 7);
        due("person(1, 1) of the last", x.person(1, 1), 1);
        due("person(0, 1) of the last", x.person(0, 1), 0);
        due("since(0, 0) of the last", x.since(0, 0), NONE);
        dueGood(" t 3 ; f 0 5 1 ; k 0 7 ; w 0 1 ; m 2 ; b 12 ; g 9 ; ", 3);
        dueGood("t007;f6 009 001;k0 127;w6 000;m006;b999;g099;", 7);
        dueGood(" ".repeat(247) + "t1;", 1);
        dueGood("t1;" + " ".repeat(247), 1);
        dueGood("t2;b0;b1;b2;b3;g1;", 2);
        dueGood("t1;f0 1 0;f0 1 0;f0 1 0;f0 1 0;f0 1 0;f0 1 0;f0 1 0;f0 1 0;k7 1;k0 0;", 1);
        dueGood("t7;w0 1;w0 2;w0 3;w0 4;w0 5;w0 6;w1 2;w1 3;w1 4;w1 5;w1 6;w2 3;", 7);
    }

    private static void landFaults() {
        promise = 4;
        dueFault("x", 1, 0);
        dueFault(";", 1, 0);
        dueFault("b5;t2;", 1, 0);
        dueFault("  g5;", 1, 2);
        dueFault("T2;", 1, 0);
        dueFault("t", 1, 1);
        dueFault("t ", 1, 2);
        dueFault("t2", 1, 2);
        dueFault("t2  ", 1, 4);
        dueFault("t2;;", 1, 3);
        dueFault("t2 3;", 1, 3);
        dueFault("t2x;", 1, 2);
        dueFault("t-2;", 1, 1);
        dueFault("t2;f0 5;", 1, 7);
        dueFault("t2;f0 5 0", 1, 9);
        dueFault("t2;q", 1, 3);
        dueFault("t2;5;", 1, 3);
        dueFault("t1;" + " ".repeat(246) + "b", 1, 250);
        dueFault("t1;" + " ".repeat(245) + "b9", 1, 250);
        dueFault("t0;", 2, 1);
        dueFault("t8", 2, 1);
        dueFault("t0002;", 2, 1);
        dueFault("t 12345", 2, 2);
        dueFault("t99999999999999999999", 2, 1);
        dueFault("t2;f2 1 0;", 2, 4);
        dueFault("t2;f010;", 2, 4);
        dueFault("t2;f0 10 0;", 2, 6);
        dueFault("t2;f0 0 0;", 2, 6);
        dueFault("t2;f0 1 2;", 2, 8);
        dueFault("t2;f0 1 0;k1 1;", 2, 11);
        dueFault("t2;f0 1 0;k0 4;", 2, 13);
        dueFault("t7;f0 1 0;k0 128;", 2, 13);
        dueFault("t2;w0 2;", 2, 6);
        dueFault("t2;w2 9;", 2, 4);
        dueFault("t2;m2;", 2, 4);
        dueFault("t2;b1000;", 2, 4);
        dueFault("t2;g0;", 2, 4);
        dueFault("t2;g100;", 2, 4);
        dueFault("t1;t1;", 3, 3);
        dueFault("t1;g1;g1;", 3, 6);
        dueFault("t1;b0;b0;b0;b0;b", 3, 15);
        dueFault("t1;f0 1 0;f0 1 0;f0 1 0;f0 1 0;f0 1 0;f0 1 0;f0 1 0;f0 1 0;f", 3, 59);
        dueFault("t7;w0 1;w0 2;w0 3;w0 4;w0 5;w0 6;w1 2;w1 3;w1 4;w1 5;w1 6;w2 3;w", 3, 63);
        dueFault("t2;f0 1 0;k0 0;k0 1;", 4, 16);
        dueFault("t2;f0 1 0;k0 0;k 0", 4, 17);
        dueFault("t2;w1 1;", 4, 6);
        dueFault("t2;w0 1;w0 1;", 4, 11);
        dueFault("t2;w0 1;w1 0;", 4, 11);
        dueFault("t2;m1;m1;", 4, 7);
    }

    private static void faultOrder() {
        promise = 4;
        dueFault("t2;m1;m1000;", 2, 7);
        dueFault("t2;w0 0000;", 2, 6);
        dueFault("t9x", 2, 1);
        dueFault("t2;f3 0 9", 2, 4);
        dueFault("t2;w0 0x", 4, 6);
        KnownWeight x = new KnownWeight();
        due("land()", tellText(x, "t0;"), -12);
        due("fault()", x.fault(), 1);
        due("fault() again", x.fault(), 1);
        due("feed('t')", x.feed('t'), 1);
        due("fault() of the latest land", x.fault(), 1);
        due("feed('1')", x.feed('1'), 2);
        due("feed(';')", x.feed(';'), 3);
        due("land()", x.land(), 1);
        due("fault()", x.fault(), NONE);
    }

    /** 0 has facts 0 (5 grams, heads 1 2 4) and 1 (a lie, 3 grams, head 2); 1 has 2 and 3; 2 has 4. */
    private static final String FIVE =
        "t5;f0 5 0;f0 3 1;f1 2 0;f1 4 0;f2 7 0;k0 22;k1 4;k2 9;k3 16;k4 27;w0 1;w1 2;w2 3;w3 4;m3;b10;b30;g3;";

    private static void told() {
        promise = 5;
        KnownWeight x = of(FIVE);
        int[] want = {5, 5, 4, 2, 3, 0, 0, 8, 11, 0};
        for (int what = 0; what <= 9; what++) {
            due("told(" + what + ")", x.told(what), want[what]);
        }
        due("told(-1)", x.told(-1), OUTSIDE);
        due("told(10)", x.told(10), OUTSIDE);
        due("feed(32)", x.feed(32), 1);
        due("told(5)", x.told(5), 1);
        due("write(0, 0)", x.write(0, 0), 1);
        due("told(9)", x.told(9), 1);
        due("tell(0, 0)", x.tell(0, 0), 3);
        due("told(8): of himself is not counted", x.told(8), 11);
    }

    private static void factAndPerson() {
        promise = 6;
        KnownWeight x = of(FIVE);
        int[] fact = {0, 3, 1, 4, 1};
        int[] own = {2, 7, 0, 27, 4};
        for (int what = 0; what <= 4; what++) {
            due("fact(1, " + what + ")", x.fact(1, what), fact[what]);
            due("fact(4, " + what + ")", x.fact(4, what), own[what]);
        }
        due("fact(5, 9)", x.fact(5, 9), UNKNOWN);
        due("fact(-1, 0)", x.fact(-1, 0), UNKNOWN);
        due("fact(0, 5)", x.fact(0, 5), OUTSIDE);
        due("fact(0, -1)", x.fact(0, -1), OUTSIDE);
        promise = 7;
        int[] person = {10, 16, 3, 0};
        for (int what = 0; what <= 3; what++) {
            due("person(2, " + what + ")", x.person(2, what), person[what]);
        }
        due("person(3, 3)", x.person(3, 3), 1);
        due("person(3, 1)", x.person(3, 1), 0);
        due("person(5, 9)", x.person(5, 9), UNKNOWN);
        due("person(-1, 0)", x.person(-1, 0), UNKNOWN);
        due("person(0, 4)", x.person(0, 4), OUTSIDE);
        due("person(0, -1)", x.person(0, -1), OUTSIDE);
    }

    private static void sinceWeightBridge() {
        promise = 8;
        KnownWeight x = of("t3;f0 9 1;f0 2 0;k0 7;k1 4;b0;b999;");
        due("since(0, 0)", x.since(0, 0), 0);
        due("since(1, 1)", x.since(1, 1), NONE);
        due("hour(5)", x.hour(5), 5);
        due("tell(1, 1)", x.tell(1, 1), 2);
        due("since(1, 1)", x.since(1, 1), 5);
        due("since(2, 1)", x.since(2, 1), 0);
        due("since(3, 0)", x.since(3, 0), UNKNOWN);
        due("since(0, 2)", x.since(0, 2), UNKNOWN);
        due("since(-1, -1)", x.since(-1, -1), UNKNOWN);
        promise = 9;
        due("weight(0)", x.weight(0), -14);
        due("weight(1)", x.weight(1), 0);
        due("weight(3)", x.weight(3), UNKNOWN);
        due("weight(-1)", x.weight(-1), UNKNOWN);
        promise = 10;
        due("bridge(0)", x.bridge(0), 0);
        due("bridge(1)", x.bridge(1), 999);
        due("bridge(2)", x.bridge(2), UNKNOWN);
        due("bridge(-1)", x.bridge(-1), UNKNOWN);
    }

    private static void tellAndForget() {
        promise = 11;
        KnownWeight x = of("t2;f0 4 0;f1 1 0;");
        due("tell(0, 0): of himself", x.tell(0, 0), 0);
        due("weight(0)", x.weight(0), 0);
        due("tell(1, 0)", x.tell(1, 0), 1);
        due("weight(0)", x.weight(0), 4);
        due("tell(1, 0)", x.tell(1, 0), NOT);
        due("tell(2, 0)", x.tell(2, 0), UNKNOWN);
        due("tell(0, 2)", x.tell(0, 2), UNKNOWN);
        promise = 12;
        due("forget(0, 1)", x.forget(0, 1), NOT);
        due("forget(2, 0)", x.forget(2, 0), UNKNOWN);
        due("forget(0, -1)", x.forget(0, -1), UNKNOWN);
        due("forget(0, 0)", x.forget(0, 0), 1);
        due("forget(1, 0)", x.forget(1, 0), 0);
        due("forget(1, 0)", x.forget(1, 0), NOT);
        due("since(1, 0)", x.since(1, 0), NONE);
    }

    private static void hour() {
        promise = 13;
        KnownWeight x = new KnownWeight();
        due("hour(0)", x.hour(0), OUTSIDE);
        due("hour(100)", x.hour(100), OUTSIDE);
        due("hour(1)", x.hour(1), NOT);
        due("land()", tellText(x, "t4;f3 1 0;f2 1 0;k0 3;k1 2;w0 2;w1 2;w1 3;w2 3;"), 4);
        due("hour(1): 0 and 1 tell 2 fact 0, 1 tells it no second time", x.hour(1), 1);
        due("fact(0, 3)", x.fact(0, 3), 7);
        due("fact(1, 3)", x.fact(1, 3), 2);
        due("since(2, 0)", x.since(2, 0), 1);
        due("hour(1): 1 and 2 tell 3", x.hour(1), 2);
        due("fact(0, 3)", x.fact(0, 3), 15);
        due("fact(1, 3)", x.fact(1, 3), 2);
        due("hour(1): 1 tells 2 fact 1", x.hour(1), 3);
        due("fact(1, 3)", x.fact(1, 3), 6);
        due("hour(1): 1 tells 3, 2 tells 0", x.hour(1), 4);
        due("fact(1, 3)", x.fact(1, 3), 15);
        due("since(0, 1)", x.since(0, 1), 4);
        due("hour(99)", x.hour(99), 103);
        due("fact(1, 3)", x.fact(1, 3), 15);
        due("since(1, 1)", x.since(1, 1), 0);
        KnownWeight quiet = of("t3;f0 1 0;k0 1;w0 1;w1 2;m1;");
        due("hour(9): 1 hears and keeps quiet", quiet.hour(9), 9);
        due("fact(0, 3)", quiet.fact(0, 3), 3);
    }

    private static void hourForgets() {
        promise = 13;
        KnownWeight x = of("t2;f0 1 0;k0 2;w0 1;g2;");
        due("hour(1): 1 tells 0", x.hour(1), 1);
        due("fact(0, 3)", x.fact(0, 3), 3);
        due("hour(1): 1 forgets, then is told by 0", x.hour(1), 2);
        due("fact(0, 3)", x.fact(0, 3), 3);
        due("since(1, 0)", x.since(1, 0), 2);
        due("since(0, 0)", x.since(0, 0), 1);
        due("hour(1): 0 forgets, then is told by 1", x.hour(1), 3);
        due("since(0, 0)", x.since(0, 0), 3);
        KnownWeight one = of("t2;f0 1 0;k0 2;w0 1;g1;");
        due("hour(1): who forgets tells nothing", one.hour(1), 1);
        due("fact(0, 3)", one.fact(0, 3), 0);
        due("tell(1, 0)", one.tell(1, 0), 1);
        due("hour(1)", one.hour(1), 2);
        due("fact(0, 3)", one.fact(0, 3), 0);
    }

    /** Takes more calls than an object is promised for; FULL cannot be reached with fewer. */
    private static void tooManyHours() {
        promise = 13;
        KnownWeight x = of("t1;");
        for (int k = 1; k <= 909; k++) {
            due("hour(99)", x.hour(99), 99 * k);
        }
        due("hour(9)", x.hour(9), 90000);
        due("hour(1): not above 90000 yet", x.hour(1), 90001);
        due("hour(1)", x.hour(1), FULL);
        due("hour(0)", x.hour(0), OUTSIDE);
        promise = 14;
        due("drift(1)", x.drift(1), FULL);
        due("drift(100)", x.drift(100), OUTSIDE);
        due("told(6)", x.told(6), 90001);
    }

    private static void drift() {
        promise = 14;
        KnownWeight x = new KnownWeight();
        due("drift(0)", x.drift(0), OUTSIDE);
        due("drift(100)", x.drift(100), OUTSIDE);
        due("drift(99)", x.drift(99), NOT);
        due("land()", tellText(x, "t3;f0 1 0;f1 1 0;"), 3);
        // the seed becomes 12345 (a draw of 3 is 0), then 1406932606 (a draw of 2 is 21468 % 2 = 0)
        due("drift(1): 0 has fact 0 since hour 0", x.drift(1), 1);
        due("fact(0, 3)", x.fact(0, 3), 1);
        due("since(0, 0)", x.since(0, 0), 0);
        due("seed(0)", x.seed(0), 1406932606);
        due("drift(1): and forgets it", x.drift(1), 2);
        due("fact(0, 3)", x.fact(0, 3), 0);
        due("seed(0)", x.seed(0), 1406932606);
        due("land()", tellText(x, "t3;"), 3);
        due("drift(1): no facts, one draw", x.drift(1), 1);
        due("seed(0)", x.seed(0), 12345);
        KnownWeight y = of("t7;f0 1 0;f0 1 0;f6 2 0;");
        due("hour(4)", y.hour(4), 4);
        due("seed(2)", y.seed(2), 0);
        // 59559187 / 65536 is 908, of 7: 5; 1495354192 / 65536 is 22817, of 3: 2
        due("drift(1): 5 has fact 2 since hour 4", y.drift(1), 5);
        due("since(5, 2)", y.since(5, 2), 4);
        due("weight(6)", y.weight(6), 2);
        due("told(8)", y.told(8), 1);
    }

    private static void heavyAndWhen() {
        promise = 15;
        KnownWeight x = of("t4;f0 5 0;f0 3 1;k0 2;k1 8;w0 1;w1 2;w2 3;b0;b4;b9;g3;");
        // hour 1: 1 tells 0 fact 0, 3 tells 2 fact 1; hour 2: 1 tells 2 fact 0, 2 tells 1 fact 1
        due("heavy(0, 0)", x.heavy(0, 0), 2);
        due("heavy(0, 1)", x.heavy(0, 1), -1);
        due("heavy(0, 2)", x.heavy(0, 2), 1);
        due("told(6): nothing changes", x.told(6), 0);
        due("weight(0): nothing changes", x.weight(0), 2);
        due("heavy(4, 100)", x.heavy(4, 100), UNKNOWN);
        due("heavy(0, 100)", x.heavy(0, 100), OUTSIDE);
        due("heavy(0, -1)", x.heavy(0, -1), OUTSIDE);
        promise = 16;
        due("when(0, 0)", x.when(0, 0), 1);
        due("when(0, 1)", x.when(0, 1), 0);
        due("when(4, 0)", x.when(4, 0), UNKNOWN);
        due("when(0, 3)", x.when(0, 3), UNKNOWN);
        due("when(0, -1)", x.when(0, -1), UNKNOWN);
        KnownWeight never = of("t2;f0 5 0;k0 2;b4;b5;");
        due("when(0, 0)", never.when(0, 0), NONE);
        due("when(0, 1): at most", never.when(0, 1), 0);
        promise = 15;
        due("heavy(0, 99)", never.heavy(0, 99), 5);
        promise = 16;
        KnownWeight late = of("t2;f0 5 0;k0 2;b4;g99;");
        due("when(0, 0): the last hour", late.when(0, 0), 99);
    }

    private static void least() {
        promise = 17;
        KnownWeight x = of("t4;f0 4 0;f0 4 0;f1 7 0;f1 9 1;f2 1 0;k0 14;k1 14;k2 13;k3 1;k4 3;b20;b0;b999;");
        // 0 weighs 24, 1 weighs 21 - 9 = 12, 2 weighs 2: 38 together
        due("least(7, 0, -1): 38, 31, 24, 17", x.least(7, 0, -1), 3);
        due("least(7, 0, 2)", x.least(7, 0, 2), 3);
        due("least(7, 0, 0)", x.least(7, 0, 0), 0);
        due("least(7, 1, -1): 38 - 21 - 20 (five of 4)", x.least(7, 1, -1), 8);
        due("least(7, 1, 0): of like ones the least first", x.least(7, 1, 0), 3);
        due("least(7, 1, 1)", x.least(7, 1, 1), 2);
        due("least(7, 1, 3): a lie", x.least(7, 1, 3), 0);
        due("least(1, 0, -1)", x.least(1, 0, -1), 1);
        due("least(1, 0, 2): of nobody of the set", x.least(1, 0, 2), 0);
        due("least(7, 2, -1)", x.least(7, 2, -1), 0);
        due("least(0, 1, -1)", x.least(0, 1, -1), 0);
        due("least(16, 0, -1)", x.least(16, 0, -1), UNKNOWN);
        due("least(-1, 0, -1)", x.least(-1, 0, -1), UNKNOWN);
        due("least(1, 3, -1)", x.least(1, 3, -1), UNKNOWN);
        due("least(1, 0, 5)", x.least(1, 0, 5), UNKNOWN);
        due("least(1, 0, -2)", x.least(1, 0, -2), UNKNOWN);
    }

    private static void trips() {
        promise = 18;
        KnownWeight x = of("t5;f0 6 0;f1 5 0;f2 4 0;f3 3 1;k0 2;k1 1;k2 1;k3 1;b10;b5;b3;");
        // they weigh 6, 5, 4, -3, 0
        due("trips(31, 0, -1)", x.trips(31, 0, -1), 2);
        due("trips(31, 0, 0): {0} leaves 6", x.trips(31, 0, 0), 1);
        due("trips(31, 0, 1)", x.trips(31, 0, 1), 30);
        due("trips(31, 0, 2)", x.trips(31, 0, 2), NONE);
        due("trips(31, 0, -2)", x.trips(31, 0, -2), NONE);
        due("trips(31, 1, -1): 0 goes with 3", x.trips(31, 1, -1), 3);
        due("trips(31, 1, 0)", x.trips(31, 1, 0), 2);
        due("trips(31, 1, 1)", x.trips(31, 1, 1), 4);
        due("trips(31, 1, 2)", x.trips(31, 1, 2), 25);
        due("trips(1, 1, -1)", x.trips(1, 1, -1), NONE);
        due("trips(31, 2, -1)", x.trips(31, 2, -1), NONE);
        due("trips(31, 2, 0)", x.trips(31, 2, 0), NONE);
        due("trips(0, 0, -1)", x.trips(0, 0, -1), 0);
        due("trips(0, 0, 0)", x.trips(0, 0, 0), NONE);
        due("trips(32, 0, -1)", x.trips(32, 0, -1), UNKNOWN);
        due("trips(-1, 0, -1)", x.trips(-1, 0, -1), UNKNOWN);
        due("trips(1, 3, -1)", x.trips(1, 3, -1), UNKNOWN);
    }

    private static void counted() {
        promise = 19;
        KnownWeight x = of("t4;f0 2 0;f1 5 0;f0 3 1;f0 1 0;");
        // 2 a - 3 c + d is w, each of them 0 to 3
        due("counted(0, 9, -1, 0): 3 0 3", x.counted(0, 9, -1, 0), 1);
        due("counted(0, 10, -1, 0)", x.counted(0, 10, -1, 0), 0);
        due("counted(0, 0, -1, 1): 0 0 0, 1 1 1, 0 1 3, 3 2 0, 2 2 2, 3 3 3", x.counted(0, 0, -1, 1), 6);
        due("counted(0, 0, 0, 0)", x.counted(0, 0, 0, 0), 0);
        due("counted(0, 0, 0, 1)", x.counted(0, 0, 0, 1), 3);
        due("counted(0, 0, 2, 1)", x.counted(0, 0, 2, 1), 3);
        due("counted(0, -8, 2, 0): 0 3 1", x.counted(0, -8, 2, 0), 3);
        due("counted(0, -8, 3, 0)", x.counted(0, -8, 3, 0), 1);
        due("counted(0, 10, 0, 0)", x.counted(0, 10, 0, 0), NONE);
        due("counted(0, 0, 1, 0): not a fact of his", x.counted(0, 0, 1, 0), NONE);
        due("counted(3, 0, -1, 0)", x.counted(3, 0, -1, 0), 1);
        due("counted(0, 999, -1, 0)", x.counted(0, 999, -1, 0), 0);
        due("counted(0, -999, -1, 0)", x.counted(0, -999, -1, 0), 0);
        due("counted(0, 1000, -1, 0)", x.counted(0, 1000, -1, 0), OUTSIDE);
        due("counted(0, -1000, -1, 0)", x.counted(0, -1000, -1, 0), OUTSIDE);
        due("counted(0, 0, -1, 2): looked at for all", x.counted(0, 0, -1, 2), OUTSIDE);
        due("counted(0, 0, 1, -1)", x.counted(0, 0, 1, -1), OUTSIDE);
        due("counted(4, 1000, -1, 0)", x.counted(4, 1000, -1, 0), UNKNOWN);
        due("counted(0, 0, 4, 2)", x.counted(0, 0, 4, 2), UNKNOWN);
        due("counted(0, 0, -2, 0)", x.counted(0, 0, -2, 0), UNKNOWN);
        KnownWeight wide = of("t7;f0 9 0;f0 9 0;f0 9 0;f0 9 0;f0 9 0;f0 9 0;f0 9 0;f0 9 0;");
        due("counted(0, 432, -1, 0)", wide.counted(0, 432, -1, 0), 1);
        due("counted(0, 9, -1, 0)", wide.counted(0, 9, -1, 0), 8);
        due("counted(0, 423, 7, 0)", wide.counted(0, 423, 7, 0), 5);
        KnownWeight alone = of("t1;f0 9 0;");
        due("counted(0, 0, -1, 0)", alone.counted(0, 0, -1, 0), 1);
        due("counted(0, 9, -1, 0)", alone.counted(0, 9, -1, 0), 0);
    }

    private static void lies() {
        promise = 20;
        KnownWeight x = of("t3;f1 2 0;f0 4 0;f1 1 1;f1 1 0;f1 4 0;k0 1;k2 5;k3 5;");
        // of 1: fact 0 weighs 2, 2 weighs 2, 3 weighs 2, 4 weighs 0
        due("lies(1, 6, 0): with and without fact 4", x.lies(1, 6, 0), 2);
        due("lies(1, 6, 1)", x.lies(1, 6, 1), 0);
        due("lies(1, 6, 2)", x.lies(1, 6, 2), 0);
        due("lies(1, 2, 0)", x.lies(1, 2, 0), 6);
        due("lies(1, 2, 1)", x.lies(1, 2, 1), 1);
        due("lies(1, 2, 2)", x.lies(1, 2, 2), 0);
        due("lies(1, -6, 1)", x.lies(1, -6, 1), 13);
        due("lies(1, -6, 2)", x.lies(1, -6, 2), 13);
        due("lies(1, 1, 0)", x.lies(1, 1, 0), 0);
        due("lies(1, 1, 1)", x.lies(1, 1, 1), NONE);
        due("lies(1, 1, 2)", x.lies(1, 1, 2), 0);
        due("lies(2, 0, 0)", x.lies(2, 0, 0), 1);
        due("lies(2, 0, 1)", x.lies(2, 0, 1), 0);
        due("lies(3, 1000, 3)", x.lies(3, 1000, 3), UNKNOWN);
        due("lies(1, 1000, 0)", x.lies(1, 1000, 0), OUTSIDE);
        due("lies(1, -1000, 0)", x.lies(1, -1000, 0), OUTSIDE);
        due("lies(1, 0, 3)", x.lies(1, 0, 3), OUTSIDE);
        due("lies(1, 0, -1)", x.lies(1, 0, -1), OUTSIDE);
    }

    private static void apart() {
        promise = 21;
        KnownWeight x = of("t6;f0 1 0;f0 1 0;f0 1 0;k0 1;k1 32;w0 1;w0 2;w1 3;w2 3;w3 4;w4 5;m4;");
        due("apart(0, 3, 0): 0 to 3 by 1 and by 2", x.apart(0, 3, 0), 2);
        due("apart(0, 3, 1): friendships 0 and 1", x.apart(0, 3, 1), 3);
        due("apart(0, 4, 0)", x.apart(0, 4, 0), 1);
        due("apart(0, 4, 1)", x.apart(0, 4, 1), 16);
        due("apart(0, 5, 0): 4 keeps quiet", x.apart(0, 5, 0), 0);
        due("apart(0, 5, 1)", x.apart(0, 5, 1), 0);
        due("apart(1, 4, 1): one who keeps quiet hears", x.apart(1, 4, 1), 32);
        due("apart(1, 0, 0)", x.apart(1, 0, 0), 0);
        due("apart(2, 0, 0): nobody has it", x.apart(2, 0, 0), 0);
        due("apart(0, 0, 0)", x.apart(0, 0, 0), NOT);
        due("apart(0, 0, 2)", x.apart(0, 0, 2), OUTSIDE);
        due("apart(0, 1, -1)", x.apart(0, 1, -1), OUTSIDE);
        due("apart(3, 0, 2)", x.apart(3, 0, 2), UNKNOWN);
        due("apart(0, 6, 0)", x.apart(0, 6, 0), UNKNOWN);
        KnownWeight quiet = of("t2;f0 1 0;k0 2;w0 1;m1;");
        due("apart(0, 0, 0): he who has it keeps quiet", quiet.apart(0, 0, 0), 0);
        KnownWeight chain = of("t4;f0 1 0;k0 1;w2 3;w1 2;w0 1;");
        due("apart(0, 3, 1): of three ways the least", chain.apart(0, 3, 1), 1);
        KnownWeight back = of("t4;f0 1 0;k0 8;w2 3;w1 2;w0 1;");
        due("apart(0, 0, 1): whatever side it comes from", back.apart(0, 0, 1), 1);
    }

    private static void treaty() {
        promise = 22;
        KnownWeight x = of("t3;f0 3 0;f0 4 0;f0 7 0;f1 5 0;f1 2 0;f1 2 1;f1 9 0;k0 2;k1 2;k2 2;k3 1;k4 1;k5 1;k6 4;");
        // 1 has 3, 4, 7 of 0; 0 has 5, 2 (and a lie) of 1: both come to 7
        due("treaty(0, 1, 0)", x.treaty(0, 1, 0), 7);
        due("treaty(0, 1, 1)", x.treaty(0, 1, 1), 24);
        due("treaty(0, 1, 2): {0, 1} is less than {2}", x.treaty(0, 1, 2), 3);
        due("treaty(1, 0, 1)", x.treaty(1, 0, 1), 3);
        due("treaty(1, 0, 2)", x.treaty(1, 0, 2), 24);
        due("treaty(0, 2, 0)", x.treaty(0, 2, 0), 0);
        due("treaty(0, 2, 1)", x.treaty(0, 2, 1), 0);
        due("treaty(0, 0, 9): one twice", x.treaty(0, 0, 9), UNKNOWN);
        due("treaty(0, 3, 0)", x.treaty(0, 3, 0), UNKNOWN);
        due("treaty(-1, 0, 0)", x.treaty(-1, 0, 0), UNKNOWN);
        due("treaty(0, 1, 3)", x.treaty(0, 1, 3), OUTSIDE);
        due("treaty(0, 1, -1)", x.treaty(0, 1, -1), OUTSIDE);
        due("forget(1, 0)", x.forget(1, 0), 0);
        due("treaty(0, 1, 2)", x.treaty(0, 1, 2), 4);
    }

    private static void odds() {
        promise = 23;
        KnownWeight x = of("t4;f0 1 0;f0 3 1;f1 9 0;k0 14;k1 2;b0;b2;b1;");
        // 3 heads of 1 gram, and a lie of 3: 0 now
        due("odds(0, 0, 0)", x.odds(0, 0, 0), 1000000000);
        due("odds(0, 0, 100): all forgotten", x.odds(0, 0, 100), 1000000000);
        due("odds(0, 1, 50): but for 3 with the lie forgotten", x.odds(0, 1, 50), 937500000);
        due("odds(0, 2, 50): nor 2 with it", x.odds(0, 2, 50), 750000000);
        due("odds(1, 0, 50): nobody has it", x.odds(1, 0, 50), 1000000000);
        due("odds(2, 0, 50)", x.odds(2, 0, 50), 1000000000);
        due("odds(4, 0, 101)", x.odds(4, 0, 101), UNKNOWN);
        due("odds(0, 3, 101)", x.odds(0, 3, 101), UNKNOWN);
        due("odds(0, 0, 101)", x.odds(0, 0, 101), OUTSIDE);
        due("odds(0, 0, -1)", x.odds(0, 0, -1), OUTSIDE);
        KnownWeight lies = of("t7;f0 9 1;f0 9 1;k0 126;k1 126;b0;");
        due("odds(0, 0, 100): -108 comes to 0", lies.odds(0, 0, 100), 1000000000);
        KnownWeight both = of("t2;f0 3 1;f0 5 0;k0 2;k1 2;b2;");
        due("odds(0, 0, 50): but for 5 with the lie forgotten", both.odds(0, 0, 50), 750000000);
        // of a billion 1% five times: 10000000, 100000, 1000, 10, and 0 of 10 (cut)
        KnownWeight cut = of("t6;f0 1 0;k0 62;b0;b1;");
        due("odds(0, 0, 1)", cut.odds(0, 0, 1), 0);
        KnownWeight rest = of("t7;f0 1 0;k0 126;b5;");
        // 99% five times keeps 10 of a billion, then 10 * 99 / 100 is 9 and 1 is left
        due("odds(0, 0, 99)", rest.odds(0, 0, 99), 999999999);
    }

    private static void scales() {
        promise = 24;
        KnownWeight x = of("t2;f0 4 0;k0 2;");
        due("write(2, 1000)", x.write(2, 1000), UNKNOWN);
        due("write(0, 1000)", x.write(0, 1000), OUTSIDE);
        due("write(0, -1000)", x.write(0, -1000), OUTSIDE);
        for (int k = 1; k <= 14; k++) {
            due("write(0, 4)", x.write(0, 4), k);
        }
        due("write(1, 0)", x.write(1, 0), 15);
        due("write(0, 4)", x.write(0, 4), FULL);
        due("write(0, 1000)", x.write(0, 1000), OUTSIDE);
        promise = 26;
        due("judge()", x.judge(), NONE);
        due("forget(1, 0)", x.forget(1, 0), 0);
        due("judge()", x.judge(), 0);
        promise = 25;
        due("tear()", x.tear(), 15);
        due("tear()", x.tear(), 0);
        due("told(9)", x.told(9), 0);
        promise = 26;
        due("judge()", x.judge(), NONE);
        due("write(1, 0)", x.write(1, 0), 1);
        due("write(0, -999)", x.write(0, -999), 2);
        due("write(0, 999)", x.write(0, 999), 3);
        due("judge()", x.judge(), 1);
    }

    private static void seedAndImages() {
        promise = 27;
        KnownWeight x = of("t2;f0 4 0;k0 2;g9;");
        due("seed(-1)", x.seed(-1), OUTSIDE);
        due("seed(MIN)", x.seed(Integer.MIN_VALUE), OUTSIDE);
        due("seed(MAX)", x.seed(Integer.MAX_VALUE), 0);
        due("seed(3)", x.seed(3), Integer.MAX_VALUE);
        promise = 28;
        due("keep(2)", x.keep(2), UNKNOWN);
        due("keep(-1)", x.keep(-1), UNKNOWN);
        due("hour(2)", x.hour(2), 2);
        due("tell(0, 0)", x.tell(0, 0), 1);
        due("keep(1)", x.keep(1), 1);
        promise = 29;
        due("goBack(0)", x.goBack(0), NOT);
        due("goBack(2)", x.goBack(2), UNKNOWN);
        due("goBack(-1)", x.goBack(-1), UNKNOWN);
        due("write(0, 4)", x.write(0, 4), 1);
        due("hour(20)", x.hour(20), 22);
        due("told(8)", x.told(8), 0);
        due("seed(9)", x.seed(9), 3);
        due("goBack(1)", x.goBack(1), 1);
        due("told(6)", x.told(6), 2);
        due("since(0, 0)", x.since(0, 0), 2);
        due("since(1, 0)", x.since(1, 0), 0);
        due("seed(3)", x.seed(3), 3);
        due("told(9): scales stay", x.told(9), 1);
        due("forget(0, 0)", x.forget(0, 0), 1);
        due("goBack(1): the image stays", x.goBack(1), 1);
        due("since(0, 0)", x.since(0, 0), 2);
        due("forget(1, 0)", x.forget(1, 0), 0);
        due("tell(1, 0)", x.tell(1, 0), 1);
        due("since(1, 0)", x.since(1, 0), 2);
        due("goBack(1): since when, too", x.goBack(1), 1);
        due("since(1, 0)", x.since(1, 0), 0);
        due("keep(0)", x.keep(0), 1);
        due("forget(1, 0)", x.forget(1, 0), 0);
        due("keep(1): another one", x.keep(1), 1);
        due("goBack(0)", x.goBack(0), 1);
        due("weight(0)", x.weight(0), 4);
        due("goBack(1)", x.goBack(1), 1);
        due("weight(0)", x.weight(0), 0);
    }

    /** As much of everything as a land may have: 7 people, 8 facts in all other heads, 4 bridges. */
    private static void fullLand() {
        String facts = "f0 9 0;".repeat(8);
        StringBuilder text = new StringBuilder("t7;").append(facts);
        for (int f = 0; f < 8; f++) {
            text.append("k").append(f).append(" 126;");
        }
        KnownWeight x = of(text + "b0;b431;b432;b999;w0 6;w0 5;w5 6;");
        promise = 9;
        due("weight(0)", x.weight(0), 432);
        promise = 5;
        due("told(8)", x.told(8), 48);
        promise = 13;
        due("hour(1): 5 and 6 tell 0 fact 0", x.hour(1), 1);
        due("person(0, 2)", x.person(0, 2), 1);
        due("hour(99)", x.hour(99), 100);
        due("person(0, 2)", x.person(0, 2), 255);
        promise = 17;
        due("least(127, 0, -1)", x.least(127, 0, -1), 48);
        due("least(127, 0, 7)", x.least(127, 0, 7), 6);
        due("least(127, 1, 0)", x.least(127, 1, 0), 1);
        promise = 18;
        due("trips(127, 2, -1)", x.trips(127, 2, -1), 1);
        due("trips(127, 2, 0)", x.trips(127, 2, 0), 127);
        due("trips(127, 1, -1)", x.trips(127, 1, -1), NONE);
        promise = 19;
        due("counted(0, 432, 7, 1)", x.counted(0, 432, 7, 1), 6);
        due("counted(0, 0, 7, 1)", x.counted(0, 0, 7, 1), 0);
        promise = 20;
        due("lies(0, 0, 0): half of the eight", x.lies(0, 0, 0), 70);
        due("lies(0, 0, 1)", x.lies(0, 0, 1), 15);
        due("lies(0, -432, 2)", x.lies(0, -432, 2), 255);
        promise = 21;
        due("apart(0, 0, 0)", x.apart(0, 0, 0), NOT);
        promise = 23;
        due("odds(0, 0, 100)", x.odds(0, 0, 100), 1000000000);
        due("odds(0, 2, 0)", x.odds(0, 2, 0), 1000000000);
        due("odds(0, 1, 0)", x.odds(0, 1, 0), 0);
        promise = 14;
        due("drift(99)", x.drift(99), 199);
        KnownWeight of = of(text.toString().replace("f0 9 0", "f0 9 1"));
        promise = 9;
        due("weight(0)", of.weight(0), -432);
        promise = 19;
        due("counted(0, -432, -1, 0)", of.counted(0, -432, -1, 0), 1);
        due("counted(0, -432, 7, 0)", of.counted(0, -432, 7, 0), 6);
        due("counted(0, -433, 7, 0)", of.counted(0, -433, 7, 0), NONE);
    }

    /** All calls of a run live in one room, so a call should make nothing at all. */
    private static void room() {
        promise = 0;
        java.lang.management.ThreadMXBean bean = java.lang.management.ManagementFactory.getThreadMXBean();
        if (!(bean instanceof com.sun.management.ThreadMXBean)) {
            return;
        }
        com.sun.management.ThreadMXBean meter = (com.sun.management.ThreadMXBean) bean;
        KnownWeight x = of("t7;f0 9 0;f0 9 1;f0 9 0;f1 9 0;k0 127;k1 126;k2 63;k3 127;w0 1;w1 2;w2 3;w3 4;b9;");
        long before = meter.getThreadAllocatedBytes(Thread.currentThread().getId());
        for (int k = 0; k < 30; k++) {
            x.hour(3);
            x.drift(2);
            x.heavy(0, 99);
            x.when(0, 0);
            x.least(127, 0, -1);
            x.trips(127, 0, 1);
            x.counted(0, k, -1, 0);
            x.lies(0, k, 2);
            x.apart(0, 1, 1);
            x.treaty(0, 1, 2);
            x.odds(0, 0, 33);
            x.keep(0);
            x.goBack(0);
        }
        long made = meter.getThreadAllocatedBytes(Thread.currentThread().getId()) - before;
        due("bytes made by 390 calls, in thousands beyond 20", (int) Math.max(0, made / 1000 - 20), 0);
    }
}
