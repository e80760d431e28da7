/** The sentences of promises 1 to 14: the land, and what is done. */
final class FirstPromises {
    private static final int NONE = Subject.NONE, UNKNOWN = Subject.UNKNOWN, OUTSIDE = Subject.OUTSIDE, NOT = Subject.NOT,
        FULL = Subject.FULL;
    /** As much as a land may have. All keep quiet, so nothing changes in it before hour 99. */
    private static final String MOST = "t7;" + "f0 9 0;".repeat(8) + "k0 126;k1 126;k2 126;k3 126;k4 126;k5 126;k6 126;k7 127;"
        + "w0 1;w0 2;w0 3;w0 4;w0 5;w0 6;w1 2;w1 3;w1 4;w1 5;w1 6;w2 3;m0;m1;m2;m3;m4;m5;m6;b0;b1;b998;b999;g99;";

    private FirstPromises() {
    }

    static void test() {
        newObject();
        feed();
        land();
        landWithFault();
        fault();
        told();
        fact();
        person();
        since();
        weightAndBridge();
        tell();
        forget();
        hour();
        drift();
        hoursAreFull();
    }

    private static void newObject() {
        Doc.part("promise 1");
        Doc.sentence("No PEOPLE.");
        Subject x = new Subject();
        x.dueRow("told", 0, 0, 0, 0, 0, 0, 0, 0, 0, 0);
        x.dueEach(UNKNOWN, "weight 0", "person 0 0", "fact 0 0", "bridge 0", "write 0 0");
        x.dueEach(NOT, "hour 1", "drift 1", "goBack 0", "goBack 1");
        x.due("fault", NONE);
        x.due("judge", NONE);
        x.due("tear", 0);
        x.due("seed 1", 0);
    }

    private static void feed() {
        Doc.part("promise 2");
        Doc.sentence("One letter (a number 0 .. 255) comes behind THE TEXT: how many it has.");
        Subject x = new Subject();
        x.due("feed 0", 1);
        x.due("feed 255", 2);
        x.due("told 5", 2);
        x.due("land", -11);
        x.due("fault", 0);
        x.due("feed 32", 1);
        Doc.sentence("OUTSIDE, FULL (250).");
        x.dueEach(OUTSIDE, "feed -1", "feed 256", "feed 2147483647", "feed -2147483648");
        for (int k = 2; k <= 250; k++) {
            x.due("feed 32", k);
        }
        x.dueEach(FULL, "feed 32", "feed 0", "feed 255");
        x.dueEach(OUTSIDE, "feed -1", "feed 256");
        x.due("told 5", 250);
        x.due("land", 0);
        x.due("told 5", 0);
        x.due("feed 32", 1);
    }

    private static void land() {
        Doc.part("promise 3");
        Doc.sentence("THE TEXT (it is empty then, with a FAULT, too) becomes THE LAND");
        Subject x = new Subject();
        x.feedAll("t2;b5;");
        x.due("land", 2);
        x.due("told 5", 0);
        x.feedAll("t0;");
        x.due("land", -12);
        x.due("told 5", 0);
        x.feedAll("t3;");
        x.due("land", 3);
        x.due("told 3", 0);
        Doc.sentence("(HOUR 0; no SCALES; IMAGES are gone; THE SEED stays): how many PEOPLE;");
        for (String text : new String[] {"", "t1;", "t7;f0 1 0;k0 127;"}) {
            Subject y = Subject.of("t2;f0 1 0;f1 2 0;k0 3;k1 1;");
            y.due("hour 3", 3);
            y.due("write 0 1", 1);
            y.due("keep 0", 1);
            y.due("keep 1", 1);
            y.due("seed 2147483647", 0);
            y.feedAll(text);
            y.due("land", text.isEmpty() ? 0 : text.charAt(1) - '0');
            y.dueEach(0, "told 6", "told 9", "tear");
            y.due("judge", NONE);
            y.dueEach(NOT, "goBack 0", "goBack 1");
            y.due("seed 0", 2147483647);
            y.due("told 8", text.length() > 3 ? 6 : 0);
        }
        mostAndLeast();
    }

    /** Nothing of a land is left in the next ones, whatever they have. */
    private static void mostAndLeast() {
        Subject x = Subject.of(MOST.replace("f0 9 0;", "f0 9 1;"));
        x.due("hour 2", 2);
        x.due("forget 1 0", 5);
        x.due("tell 1 0", 6);
        x.feedAll("t1;");
        x.due("land", 1);
        x.dueRow("told", 1, 0, 0, 0, 0, 0, 0, 0, 0, 0);
        x.dueRow("person 0", 0, 0, 0, 0);
        x.due("weight 0", 0);
        x.feedAll("t7;f6 1 0;f6 1 0;k0 2;w5 6;");
        x.due("land", 7);
        x.dueRow("told", 7, 2, 1, 0, 0, 0, 0, 0, 1, 0);
        x.dueRow("fact 0", 6, 1, 0, 2, 1);
        x.dueRow("fact 1", 6, 1, 0, 0, 0);
        x.dueRow("person 0", 0, 0, 0, 0);
        x.dueRow("person 6", 32, 3, 0, 0);
        x.dueRow("since 1", 0, NONE);
    }

    private static void landWithFault() {
        Doc.sentence("-10 less the number of its FAULT (all else is as it was).");
        String[] texts = {"t2;x", "t2;b1000;", "t2;t2;", "t2;w1 1;", "t1;f0 1 0;k0 1;w"};
        int[] answers = {-11, -12, -13, -14, -11};
        int[] places = {3, 4, 3, 6, 16};
        for (int k = 0; k < texts.length; k++) {
            String before = busy().look();
            Subject x = busy();
            x.feedAll(texts[k]);
            x.due("land", answers[k]);
            // the look begins by where the fault is
            String due = before.replaceFirst("fault -1;", "fault " + places[k] + ";");
            Subject.dueAlike("land of " + texts[k], x.look(), due);
        }
    }

    private static Subject busy() {
        Subject x = Subject.of("t3;f0 5 0;f1 3 1;k0 2;k1 4;w0 1;m2;b10;b0;g5;");
        for (String call : new String[] {"seed 77", "hour 1", "keep 0", "drift 2", "write 0 5", "write 1 -3", "keep 1", "drift 1"}) {
            x.dueTaken(call);
        }
        return x;
    }

    private static void fault() {
        Doc.part("promise 4");
        Doc.sentence("The letter of the FAULT of the latest land(); NONE.");
        Subject x = new Subject();
        x.due("fault", NONE);
        x.feedAll("x");
        x.due("fault", NONE);
        x.due("land", -11);
        x.dueEach(0, "fault", "fault");
        x.feedAll("t1;t");
        x.due("fault", 0);
        x.due("land", -13);
        x.due("fault", 3);
        x.due("land", 0);
        x.due("fault", NONE);
        x.feedAll("t1;b" + " ".repeat(246));
        x.due("land", -11);
        x.due("fault", 250);
        x.feedAll("t1;");
        x.due("land", 1);
        x.due("fault", NONE);
    }

    private static void told() {
        Doc.part("promise 5");
        Doc.sentence("0 PEOPLE, 1 FACTS, 2 FRIENDSHIPS, 3 BRIDGES, 4 H (0: never), 5 letters of THE TEXT, 6 HOURS, 7 who keeps quiet (a SET),"
            + " 8 HEADS of all FACTS, 9 SCALES.");
        Subject least = Subject.of("t1;");
        least.dueRow("told", 1, 0, 0, 0, 0, 0, 0, 0, 0, 0);
        Subject most = Subject.of(MOST);
        most.dueRow("told", 7, 8, 12, 4, 99, 0, 0, 127, 48, 0);
        for (int k = 1; k <= 15; k++) {
            most.due("write 0 432", k);
        }
        most.due("hour 98", 98);
        most.feedAll("t1;");
        most.dueRow("told", 7, 8, 12, 4, 99, 3, 98, 127, 48, 15);
        most.due("hour 1", 99);
        most.dueRow("told", 7, 8, 12, 4, 99, 3, 99, 127, 0, 15);
        Subject text = new Subject();
        text.feedAll(" ".repeat(250));
        text.due("told 5", 250);
        Doc.sentence("OUTSIDE.");
        most.dueBounds("told #", 0, 9);
        text.dueBounds("told #", 0, 9);
    }

    private static void fact() {
        Doc.part("promise 6");
        Doc.sentence("Of a FACT: what = 0 P, 1 G, 2 L, 3 who HAS it (a SET), 4 HEADS.");
        Subject x = Subject.of("t7;f6 9 1;f0 1 0;k0 127;");
        x.dueRow("fact 0", 6, 9, 1, 127, 6);
        x.dueRow("fact 1", 0, 1, 0, 0, 0);
        Subject.of(MOST).dueRow("fact 7", 0, 9, 0, 127, 6);
        Doc.sentence("UNKNOWN, OUTSIDE.");
        x.dueKnown("fact # 0", 2);
        x.dueKnown("fact # 4", 2);
        x.dueBounds("fact 1 #", 0, 4);
        x.dueEach(UNKNOWN, "fact 2 5", "fact -1 -1");
        Subject most = Subject.of(MOST);
        most.dueKnown("fact # 0", 8);
        most.dueBounds("fact 7 #", 0, 4);
    }

    private static void person() {
        Doc.part("promise 7");
        Doc.sentence("Of a PERSON: what = 0 FRIENDS (a SET), 1 FACTS of his, 2 FACTS that he HAS (SETS of FACTS), 3 1 he keeps quiet, 0 not.");
        Subject most = Subject.of(MOST);
        most.dueRow("person 0", 126, 255, 128, 1);
        most.dueRow("person 6", 3, 0, 255, 1);
        Subject x = Subject.of("t2;");
        x.dueRow("person 0", 0, 0, 0, 0);
        x.dueRow("person 1", 0, 0, 0, 0);
        Doc.sentence("UNKNOWN, OUTSIDE.");
        most.dueKnown("person # 0", 7);
        most.dueKnown("person # 3", 7);
        most.dueBounds("person 6 #", 0, 3);
        x.dueKnown("person # 0", 2);
        x.dueEach(UNKNOWN, "person 2 4", "person -1 -1");
    }

    private static void since() {
        Doc.part("promise 8");
        Doc.sentence("The HOUR since which a PERSON HAS a FACT; NONE: he does not.");
        Subject x = Subject.of("t2;f0 1 0;f0 1 0;f1 1 0;k0 1;");
        x.dueRow("since 0", 0, NONE, NONE);
        x.due("hour 99", 99);
        x.due("tell 0 2", 1);
        x.dueRow("since 0", 0, NONE, 99);
        x.due("forget 0 0", 0);
        x.dueRow("since 0", NONE, NONE, 99);
        x.due("tell 0 0", 0);
        x.dueRow("since 0", 99, NONE, 99);
        Doc.sentence("UNKNOWN.");
        x.dueKnown("since # 0", 2);
        x.dueKnown("since 0 #", 3);
        x.dueEach(UNKNOWN, "since 2 3", "since -1 -1");
    }

    private static void weightAndBridge() {
        Doc.part("promise 9");
        Doc.sentence("WEIGHT (may be below 0).");
        Subject x = Subject.of("t3;f0 1 1;f1 9 0;k0 6;k1 5;b0;b999;");
        x.due("weight 0", -2);
        x.due("weight 1", 18);
        x.due("weight 2", 0);
        Subject.of(MOST).due("weight 0", 432);
        Doc.sentence("UNKNOWN.");
        x.dueKnown("weight #", 3);
        Subject.of(MOST).dueKnown("weight #", 7);
        Doc.part("promise 10");
        Doc.sentence("What a BRIDGE bears.");
        x.dueRow("bridge", 0, 999);
        Subject.of(MOST).dueRow("bridge", 0, 1, 998, 999);
        Doc.sentence("UNKNOWN.");
        x.dueKnown("bridge #", 2);
        Subject.of(MOST).dueKnown("bridge #", 4);
        Subject.of("t1;").due("bridge 0", UNKNOWN);
    }

    private static void tell() {
        Doc.part("promise 11");
        Doc.sentence("A PERSON is told a FACT (by whomever; he HAS it since this HOUR): HEADS of it.");
        // by nobody he knows, and of himself
        Subject x = Subject.of("t3;f0 4 0;f1 1 0;m1;");
        x.due("tell 0 0", 0);
        x.due("since 0 0", 0);
        x.due("hour 2", 2);
        x.due("tell 2 0", 1);
        x.due("since 2 0", 2);
        x.due("tell 1 0", 2);
        x.due("fact 0 3", 7);
        x.due("weight 0", 8);
        Doc.sentence("UNKNOWN, NOT: he HAS it.");
        x.dueKnown("tell # 1", 3);
        x.dueEach(UNKNOWN, "tell 0 2", "tell 0 -1", "tell 3 2");
        x.dueEach(NOT, "tell 0 0", "tell 1 0", "tell 2 0");
        x.due("hour 1", 3);
        x.due("tell 2 0", NOT);
        x.due("since 2 0", 2);
        x.due("forget 2 0", 1);
        x.due("tell 2 0", 2);
        x.due("since 2 0", 3);
    }

    private static void forget() {
        Doc.part("promise 12");
        Doc.sentence("A PERSON FORGETS a FACT: HEADS of it.");
        Subject x = Subject.of("t3;f0 4 0;f1 1 0;k0 7;k1 7;");
        x.due("forget 0 0", 2);
        x.due("forget 2 0", 1);
        x.due("forget 1 0", 0);
        x.due("fact 0 3", 0);
        x.due("since 1 0", NONE);
        x.due("fact 1 3", 7);
        Doc.sentence("UNKNOWN, NOT: he does not have it.");
        x.dueEach(NOT, "forget 0 0", "forget 1 0", "forget 2 0");
        x.dueKnown("forget # 1", 3);
        x.dueEach(UNKNOWN, "forget 0 2", "forget 0 -1", "forget 3 0", "forget -1 0", "forget 3 2");
    }

    private static void hour() {
        Doc.part("promise 13");
        Doc.sentence("n HOURS (1 .. 99): HOURS.");
        Subject x = Subject.of("t3;f0 1 0;k0 1;w0 1;w1 2;g99;");
        x.due("hour 1", 1);
        x.due("fact 0 3", 3);
        x.due("hour 1", 2);
        x.due("fact 0 3", 7);
        Subject same = Subject.of("t3;f0 1 0;k0 1;w0 1;w1 2;g99;");
        same.due("hour 2", 2);
        same.due("fact 0 3", 7);
        same.due("since 2 0", 2);
        same.due("hour 99", 101);
        same.due("told 6", 101);
        // with the 512th call of an object, the last one that is promised
        Subject last = Subject.of("t1;");
        for (int k = 1; k <= 508; k++) {
            last.due("hour 99", 99 * k);
        }
        Doc.sentence("OUTSIDE, NOT: no PEOPLE;");
        x.dueBounds("hour #", 1, 99);
        Subject empty = new Subject();
        empty.dueEach(NOT, "hour 1", "hour 99");
        empty.dueEach(OUTSIDE, "hour 0", "hour 100");
        empty.due("land", 0);
        empty.due("hour 1", NOT);
        empty.feedAll("t1;");
        empty.due("hour 1", NOT);
        empty.due("land", 1);
        empty.due("hour 1", 1);
        empty.due("land", 0);
        empty.due("hour 1", NOT);
        empty.due("told 6", 0);
    }

    private static void drift() {
        Doc.part("promise 14");
        Doc.sentence("n HOURS BY DRAWS (1 .. 99): HOURS.");
        Subject x = Subject.of("t7;f0 1 0;f6 2 0;w0 1;w5 6;g9;");
        Subject same = Subject.of("t7;f0 1 0;f6 2 0;w0 1;w5 6;g9;");
        x.due("drift 99", 99);
        for (int k = 1; k <= 99; k++) {
            same.due("drift 1", k);
        }
        Subject.dueAlike("drift 99 instead of 99 times drift 1", x.look(), same.look());
        Doc.sentence("OUTSIDE, NOT: no PEOPLE;");
        Subject.of("t1;").dueBounds("drift #", 1, 99);
        Subject empty = new Subject();
        empty.dueEach(NOT, "drift 1", "drift 99");
        empty.dueEach(OUTSIDE, "drift 0", "drift 100");
        empty.due("seed 0", 0);
        empty.due("land", 0);
        empty.due("drift 1", NOT);
    }

    /** 512 calls of 99 hours do not come to 90000, so these take more than an object is promised for. */
    private static void hoursAreFull() {
        Subject x = new Subject(2000);
        x.feedAll("t1;f0 1 0;k0 1;");
        x.due("land", 1);
        Doc.part("promise 13");
        Doc.sentence("FULL: HOURS are above 90000.");
        for (int k = 1; k <= 909; k++) {
            x.due("hour 99", 99 * k);
        }
        x.due("hour 9", 90000);
        x.due("keep 0", 1);
        x.due("hour 99", 90099);
        x.dueEach(FULL, "hour 1", "hour 99");
        x.dueEach(OUTSIDE, "hour 0", "hour 100");
        x.due("goBack 0", 1);
        x.due("hour 1", 90001);
        x.due("hour 1", FULL);
        x.due("told 6", 90001);
        Doc.part("promise 14");
        Doc.sentence("FULL: HOURS are above 90000.");
        x.due("seed 7", 0);
        x.dueEach(FULL, "drift 1", "drift 99");
        x.dueEach(OUTSIDE, "drift 0", "drift 100");
        x.due("seed 0", 7);
        x.due("fact 0 3", 1);
        x.due("told 6", 90001);
        x.due("goBack 0", 1);
        x.due("drift 99", 90099);
        x.due("drift 1", FULL);
    }
}
