/** The sentences of "Terms": numbers, sets, the refusals and their order, and that what is refused changes nothing. */
final class Terms {
    private static final int NONE = Subject.NONE, UNKNOWN = Subject.UNKNOWN, OUTSIDE = Subject.OUTSIDE, NOT = Subject.NOT,
        FULL = Subject.FULL;
    /** Counts that are all unlike, so that no one can stand for another: 3 people, 4 facts, 2 bridges (and 2 images). */
    private static final String NOBODY_KNOWS = "t3;f0 5 0;f1 2 0;f2 3 1;f0 4 0;w0 1;b9;b0;";

    private Terms() {
    }

    static void test() {
        Doc.part("terms");
        Doc.plain("Words in capitals are told where they come first.");
        numbers();
        sets();
        unknown();
        outside();
        not();
        full();
        order();
        values();
        refusedChangesNothing();
        refusedWhenFullChangesNothing();
        Doc.sentence("BILLION is 1000000000.");
        Subject.of("t1;b0;").due("odds 0 0 0", 1000000000);
    }

    private static void numbers() {
        Doc.sentence("All numbers are whole; / cuts towards 0.");
        // one of a hundred, four times: 10000000, 100000, 1000, 10; a fifth time 10 / 100 is cut to 0
        Subject.of("t5;f0 1 0;k0 30;b0;").due("odds 0 0 1", 10);
        Subject.of("t6;f0 1 0;k0 62;b0;").due("odds 0 0 1", 0);
        Doc.sentence("What has a number has it from 0 on, as it comes.");
        Subject x = Subject.of("t2;f1 3 0;f0 4 1;k0 1;w0 1;b8;b9;");
        x.due("fact 0 0", 1);
        x.due("fact 1 0", 0);
        x.due("bridge 0", 8);
        x.due("bridge 1", 9);
        x.due("apart 0 1 1", 1);
        x.due("write 0 99", 1);
        x.due("judge", 0);
    }

    private static void sets() {
        Doc.sentence("A SET is a whole number, bit k for k (of PEOPLE, if nothing else is told).");
        Subject x = Subject.of("t7;f0 1 0;f6 2 0;k0 65;k1 64;w0 6;m6;m0;");
        x.due("fact 0 3", 65);
        x.due("fact 1 3", 64);
        x.due("person 0 0", 64);
        x.due("person 6 0", 1);
        x.due("person 6 1", 2);
        x.due("person 6 2", 3);
        x.due("told 7", 65);
        Doc.sentence("NONE is -1.");
        Doc.check(KnownWeight.NONE == -1, "NONE is " + KnownWeight.NONE);
        x.due("since 1 0", -1);
        x.due("fault", -1);
    }

    private static void unknown() {
        Doc.sentence("UNKNOWN (a PERSON, FACT, BRIDGE, IMAGE that there is not;");
        Subject x = Subject.of(NOBODY_KNOWS);
        for (String call : new String[] {"person # 0", "since # 0", "weight #", "heavy # 0", "when # 0", "counted # 0 -1 0",
            "lies # 0 0", "apart 0 # 0", "odds # 0 0", "write # 0", "tell # 1"}) {
            x.dueKnown(call, 3);
        }
        for (String call : new String[] {"fact # 0", "since 0 #", "apart # 1 0", "tell 1 #"}) {
            x.dueKnown(call, 4);
        }
        for (String call : new String[] {"bridge #", "when 0 #", "least 7 # -1", "trips 7 # -1", "odds 0 # 0"}) {
            x.dueKnown(call, 2);
        }
        x.dueKnownOrNone("least 7 0 #", 4);
        x.dueKnownOrNone("counted 0 0 # 0", 4);
        x.dueKnown("keep #", 2);
        x.dueKnown("goBack #", 2);
        Subject all = Subject.of(NOBODY_KNOWS + "k0 7;k1 7;k2 7;k3 7;");
        all.dueKnown("forget # 1", 3);
        all.dueKnown("forget 1 #", 4);
        nothingIsKnownWithoutPeople();
        Doc.sentence("one twice;");
        x.dueEach(UNKNOWN, "treaty 0 0 0", "treaty 2 2 0", "treaty 3 3 0", "treaty -1 -1 0");
        x.dueTaken("treaty 0 2 0");
        x.dueTaken("treaty 2 0 0");
        x.dueEach(UNKNOWN, "treaty 0 3 0", "treaty 3 0 0", "treaty -1 0 0", "treaty 0 -1 0");
        Doc.sentence("bits of such),");
        for (String call : new String[] {"least # 0 -1", "trips # 0 -1"}) {
            x.dueKnown(call, 8);
            x.dueEach(UNKNOWN, call.replace("#", "9"), call.replace("#", "-8"), call.replace("#", "1073741824"));
        }
        Subject seven = Subject.of("t7;b0;");
        seven.dueKnown("least # 0 -1", 128);
        seven.dueKnown("trips # 0 -1", 128);
    }

    /** In a new object, and behind the land of an empty text; one person without facts and bridges knows little more. */
    private static void nothingIsKnownWithoutPeople() {
        String[] ofFactsAndBridges = {"fact 0 0", "since 0 0", "tell 0 0", "forget 0 0", "apart 0 0 0", "bridge 0", "when 0 0",
            "least 0 0 -1", "least 1 0 -1", "trips 0 0 -1", "trips 1 0 -1", "counted 0 0 0 0", "odds 0 0 0"};
        String[] ofPeople = {"person 0 0", "weight 0", "heavy 0 0", "counted 0 0 -1 0", "lies 0 0 0", "treaty 0 1 0", "write 0 0"};
        Subject x = new Subject();
        x.dueEach(UNKNOWN, ofFactsAndBridges);
        x.dueEach(UNKNOWN, ofPeople);
        x.feedAll("t7;f6 9 0;b0;");
        x.due("land", 7);
        x.due("land", 0);
        x.dueEach(UNKNOWN, ofFactsAndBridges);
        x.dueEach(UNKNOWN, ofPeople);
        Subject.of("t1;").dueEach(UNKNOWN, ofFactsAndBridges);
        Subject.of("t1;b0;").dueEach(UNKNOWN, "least 2 0 -1", "trips 2 0 -1", "least -1 0 -1", "least 0 0 0");
    }

    private static void outside() {
        Doc.sentence("OUTSIDE (another number out of its bounds),");
        Subject x = Subject.of(NOBODY_KNOWS);
        x.dueBounds("feed #", 0, 255);
        x.dueBounds("told #", 0, 9);
        x.dueBounds("fact 0 #", 0, 4);
        x.dueBounds("person 0 #", 0, 3);
        x.dueBounds("hour #", 1, 99);
        x.dueBounds("heavy 0 #", 0, 99);
        x.dueBounds("counted 0 # -1 0", -999, 999);
        x.dueBounds("counted 0 0 -1 #", 0, 1);
        x.dueBounds("counted 0 0 0 #", 0, 1);
        x.dueBounds("lies 0 # 0", -999, 999);
        x.dueBounds("lies 0 0 #", 0, 2);
        x.dueBounds("apart 0 1 #", 0, 1);
        x.dueBounds("treaty 0 1 #", 0, 2);
        x.dueBounds("odds 0 0 #", 0, 100);
        x.dueBounds("write 0 #", -999, 999);
        x.dueBounds("seed #", 0, Integer.MAX_VALUE);
        x.dueBounds("drift #", 1, 99);
    }

    private static void not() {
        Doc.sentence("NOT (not now, as told),");
        Subject x = new Subject();
        x.dueEach(NOT, "hour 1", "hour 99", "drift 1", "drift 99", "goBack 0", "goBack 1");
        Subject y = Subject.of("t2;f0 1 0;k0 1;");
        y.dueEach(NOT, "tell 0 0", "forget 1 0", "apart 0 0 0", "goBack 0", "goBack 1");
    }

    private static void full() {
        Doc.sentence("FULL.");
        Subject x = Subject.of("t1;");
        for (int k = 1; k <= 15; k++) {
            x.due("write 0 0", k);
        }
        x.dueEach(FULL, "write 0 0", "write 0 999");
        x.feedAll(" ".repeat(250));
        x.dueEach(FULL, "feed 0", "feed 32", "feed 255");
    }

    private static void order() {
        Doc.sentence("REFUSALS, of several the first in this order:");
        Subject x = Subject.of(NOBODY_KNOWS + "k0 1;");
        // UNKNOWN ahead of OUTSIDE
        x.dueEach(UNKNOWN, "fact 4 5", "person 3 4", "heavy 3 100", "counted 3 1000 -1 0", "counted 0 1000 4 0",
            "counted 3 0 -1 2", "counted 0 0 4 2", "counted 0 0 -2 -1", "lies 3 1000 0", "lies 3 0 3", "apart 4 0 2", "apart 0 3 2",
            "treaty 3 0 3", "treaty 0 3 3", "treaty 1 1 3", "odds 3 0 101", "odds 0 2 101", "write 3 1000");
        // UNKNOWN ahead of NOT
        x.dueEach(UNKNOWN, "forget 3 0", "forget 0 4", "tell 0 4", "apart 4 0 0", "goBack 2", "goBack -1");
        // OUTSIDE ahead of NOT
        x.dueEach(OUTSIDE, "apart 0 0 2", "apart 0 0 -1");
        x.due("apart 0 0 1", NOT);
        new Subject().dueEach(OUTSIDE, "hour 0", "hour 100", "hour -1", "drift 0", "drift 100", "drift -1");
        // UNKNOWN, then OUTSIDE, ahead of FULL
        for (int k = 1; k <= 15; k++) {
            x.due("write 2 0", k);
        }
        x.dueEach(UNKNOWN, "write 3 0", "write -1 0", "write 3 1000");
        x.dueEach(OUTSIDE, "write 0 1000", "write 0 -1000");
        x.due("write 0 0", FULL);
        x.feedAll(" ".repeat(250));
        x.dueEach(OUTSIDE, "feed 256", "feed -1");
        x.due("feed 32", FULL);
    }

    private static void values() {
        Doc.sentence("They are far below all that is counted: -1000000001 and on.");
        Doc.check(KnownWeight.UNKNOWN == -1000000001, "UNKNOWN");
        Doc.check(KnownWeight.OUTSIDE == -1000000002, "OUTSIDE");
        Doc.check(KnownWeight.NOT == -1000000003, "NOT");
        Doc.check(KnownWeight.FULL == -1000000004, "FULL");
    }

    /** Something of everything: hours, images, scales, a seed, letters of a next text. 1 has fact 0, 0 has not. */
    private static Subject busy() {
        Subject x = Subject.of("t3;f0 5 0;f1 3 1;f1 2 0;k0 2;k1 4;k2 1;w0 1;w1 2;m2;b10;b0;g5;");
        for (String call : new String[] {"seed 77", "hour 1", "tell 0 1", "keep 0", "drift 2", "write 0 5", "write 1 -2", "forget 1 2",
            "tell 1 0", "forget 0 0"}) {
            x.call(call);
        }
        x.feedAll("t2;b7");
        return x;
    }

    private static void refusedChangesNothing() {
        Doc.sentence("What is refused changes nothing.");
        String before = busy().look();
        Doc.check(before.contains("told 6 -> 3") && before.contains("goBack 0 -> 1") && before.contains("land -> 2"),
            "the look shows little: " + before);
        for (String call : new String[] {"feed -1", "feed 256", "feed 372", "told -1", "told 10", "fact 3 0", "fact 0 5", "person 3 0",
            "person 0 4", "since 3 0", "since 0 3", "weight 3", "weight -1", "bridge 2", "bridge -1", "tell 3 0", "tell 0 3", "tell 1 0",
            "forget 3 0", "forget 0 3", "forget 0 0", "hour 0", "hour 100", "hour -1", "drift 0", "drift 100", "drift -1",
            "heavy 3 0", "heavy 0 100", "heavy 0 -1", "when 3 0", "when 0 2", "least 8 0 -1", "least -1 0 -1", "least 1 2 -1",
            "least 1 0 3", "least 1 0 -2", "trips 8 0 -1", "trips -1 0 -1", "trips 1 2 -1", "counted 3 0 -1 0", "counted 0 1000 -1 0",
            "counted 0 0 3 0", "counted 0 0 -1 2", "lies 3 0 0", "lies 0 -1000 0", "lies 0 0 3", "apart 3 0 0", "apart 0 3 0",
            "apart 0 0 2", "apart 0 1 0", "treaty 0 0 0", "treaty 0 3 0", "treaty 0 1 3", "odds 3 0 0", "odds 0 2 0", "odds 0 0 101",
            "odds 0 0 -1", "write 3 0", "write 0 1000", "write 0 -1000", "seed -1", "seed -2147483648", "keep 2", "keep -1",
            "goBack 2", "goBack -1", "goBack 1"}) {
            Subject x = busy();
            int got = x.call(call);
            Doc.check(got <= UNKNOWN, call + " was not refused: " + got);
            Subject.dueAlike(call, x.look(), before);
        }
        String empty = withoutPeople().look();
        for (String call : new String[] {"hour 1", "drift 99", "hour 0", "weight 0", "write 0 0", "tell 0 0", "goBack 0"}) {
            Subject x = withoutPeople();
            Doc.check(x.call(call) <= UNKNOWN, call + " was not refused");
            Subject.dueAlike(call, x.look(), empty);
        }
    }

    private static Subject withoutPeople() {
        Subject x = new Subject();
        x.due("seed 5", 0);
        x.due("keep 1", 1);
        x.feedAll("t2;b7");
        return x;
    }

    private static Subject full(String wrongOnes) {
        Subject x = Subject.of("t2;f0 5 0;k0 2;b3;");
        for (int k = 1; k <= 14; k++) {
            x.due("write 0 5", k);
        }
        x.due("write 1 0", 15);
        x.feedAll("t2;b7" + " ".repeat(245));
        for (String call : wrongOnes.isEmpty() ? new String[0] : wrongOnes.split(",")) {
            x.due(call, FULL);
        }
        return x;
    }

    private static void refusedWhenFullChangesNothing() {
        String before = full("").look();
        for (String call : new String[] {"feed 59", "feed 116", "write 0 4", "write 1 1", "feed 59,write 1 1,feed 0"}) {
            Subject.dueAlike(call, full(call).look(), before);
        }
    }
}
