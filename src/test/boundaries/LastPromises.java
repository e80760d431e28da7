/** The sentences of promises 15 to 29: what is tried, scales, the seed and images. */
final class LastPromises {
    private static final int NONE = Subject.NONE, UNKNOWN = Subject.UNKNOWN, OUTSIDE = Subject.OUTSIDE, NOT = Subject.NOT,
        FULL = Subject.FULL;
    /** 0 weighs 10 - 3, 1 weighs 4, 2 nothing. */
    private static final String THREE = "t3;f0 5 0;f0 3 1;f1 4 0;f1 2 0;k0 6;k1 2;k2 1;b10;b0;";

    private LastPromises() {
    }

    static void test() {
        heavyAndWhen();
        leastAndTrips();
        counted();
        lies();
        apart();
        treaty();
        odds();
        write();
        tearAndJudge();
        seed();
        keep();
        goBack();
    }

    private static void heavyAndWhen() {
        Doc.part("promise 15");
        Doc.sentence("HEAVY (may be below 0).");
        Subject x = Subject.of("t2;f0 5 0;f0 9 1;k0 2;k1 2;b0;");
        x.due("heavy 0 0", -4);
        x.due("heavy 0 99", -4);
        x.due("heavy 1 99", 0);
        Doc.sentence("UNKNOWN, OUTSIDE.");
        x.dueKnown("heavy # 0", 2);
        x.dueBounds("heavy 1 #", 0, 99);
        x.dueEach(UNKNOWN, "heavy 2 100", "heavy -1 -1");
        Doc.part("promise 16");
        Doc.sentence("WHEN; NONE.");
        x.due("when 0 0", 0);
        x.due("forget 1 1", 0);
        x.due("when 0 0", NONE);
        Doc.sentence("UNKNOWN.");
        x.dueKnown("when # 0", 2);
        x.dueKnown("when 0 #", 1);
        x.dueEach(UNKNOWN, "when 2 1", "when -1 -1");
        Subject.of("t1;").due("when 0 0", UNKNOWN);
    }

    private static void leastAndTrips() {
        Doc.part("promise 17");
        Doc.sentence("LEAST: f = NONE how many, else how often a FACT; NONE.");
        Subject x = Subject.of(THREE);
        x.due("least 7 0 -1", 1);
        x.dueRow("least 7 0", 1, 0, 0, 0, UNKNOWN);
        x.due("least 7 1 -1", 3);
        x.dueRow("least 7 1", 2, 0, 1, 0, UNKNOWN);
        Doc.sentence("UNKNOWN.");
        x.dueKnown("least # 0 -1", 8);
        x.dueKnown("least 7 # -1", 2);
        x.dueKnownOrNone("least 7 0 #", 4);
        x.dueEach(UNKNOWN, "least 8 2 4", "least 8 0 4", "least 7 2 4");
        Doc.part("promise 18");
        Doc.sentence("TRIPS: i = NONE how many, else the i-th group; NONE.");
        x.due("trips 3 0 -1", 2);
        x.dueRow("trips 3 0", 1, 2, NONE);
        x.due("trips 7 0 0", 1);
        x.due("trips 7 0 1", 6);
        x.due("trips 7 1 -1", NONE);
        x.dueRow("trips 7 1", NONE, NONE);
        x.due("trips 4 1 -1", 1);
        Doc.sentence("UNKNOWN.");
        x.dueKnown("trips # 0 -1", 8);
        x.dueKnown("trips 7 # -1", 2);
        x.dueEach(UNKNOWN, "trips 8 2 -1", "trips 8 0 0", "trips 7 2 9", "trips -1 -1 -1");
    }

    private static void counted() {
        Doc.part("promise 19");
        Doc.sentence("COUNTED: f = NONE how many ways, else what = 0 the fewest HEADS, 1 the most (NONE: no way, not a FACT of his).");
        Subject x = Subject.of(THREE);
        // 5 a - 3 c of 0, 4 a + 2 c of 1, each of them 0 to 2
        x.dueRow("counted 0 7 -1", 1, 1);
        x.dueRow("counted 0 7 0", 2, 2);
        x.dueRow("counted 0 7 1", 1, 1);
        x.dueRow("counted 1 4 -1", 2, 2);
        x.dueRow("counted 1 4 2", 0, 1);
        x.dueRow("counted 1 4 3", 0, 2);
        x.dueRow("counted 1 5 -1", 0, 0);
        x.dueRow("counted 1 5 2", NONE, NONE);
        x.dueRow("counted 1 4 0", NONE, NONE);
        x.dueRow("counted 2 0 0", NONE, NONE);
        x.dueRow("counted 2 0 -1", 1, 1);
        Doc.sentence("UNKNOWN, OUTSIDE (what is looked at for all).");
        x.dueKnown("counted # 0 -1 0", 3);
        x.dueKnownOrNone("counted 0 7 # 1", 4);
        x.dueBounds("counted 0 # -1 1", -999, 999);
        x.dueBounds("counted 0 # 3 0", -999, 999);
        x.dueBounds("counted 0 0 -1 #", 0, 1);
        x.dueBounds("counted 0 0 0 #", 0, 1);
        x.dueBounds("counted 0 0 3 #", 0, 1);
        x.dueEach(UNKNOWN, "counted 3 1000 4 2", "counted 0 1000 4 2", "counted 3 1000 -1 0", "counted 0 0 -2 2");
        x.dueEach(OUTSIDE, "counted 0 1000 3 0", "counted 0 1000 -1 2");
    }

    private static void lies() {
        Doc.part("promise 20");
        Doc.sentence("LIES: what = 0 how many, 1 the least (NONE), 2 SURE.");
        Subject x = Subject.of(THREE);
        x.dueRow("lies 0 7", 1, 2, 2);
        x.dueRow("lies 0 13", 1, 0, 0);
        x.dueRow("lies 0 -13", 1, 3, 3);
        x.dueRow("lies 0 0", 0, NONE, 0);
        x.dueRow("lies 1 4", 2, 0, 0);
        x.dueRow("lies 1 -4", 2, 4, 4);
        Doc.sentence("UNKNOWN, OUTSIDE.");
        x.dueKnown("lies # 0 0", 3);
        x.dueBounds("lies 0 # 0", -999, 999);
        x.dueBounds("lies 0 # 1", -999, 999);
        x.dueBounds("lies 0 0 #", 0, 2);
        x.dueEach(UNKNOWN, "lies 3 1000 0", "lies 3 0 3", "lies -1 -1000 -1");
    }

    private static void apart() {
        Doc.part("promise 21");
        Doc.sentence("APART: what = 0 how many, 1 which.");
        Subject x = Subject.of("t3;f0 1 0;f0 1 0;k0 1;w1 2;w0 1;w0 2;");
        x.dueRow("apart 0 2", 2, 5);
        x.dueRow("apart 0 1", 2, 3);
        x.dueRow("apart 1 0", 0, 0);
        Doc.sentence("UNKNOWN, OUTSIDE, NOT, as told.");
        x.dueKnown("apart # 2 0", 2);
        x.dueEach(UNKNOWN, "apart 0 3 0", "apart 0 -1 0", "apart 2 3 2", "apart 2 0 2", "apart 0 3 2");
        x.dueBounds("apart 0 2 #", 0, 1);
        x.dueRow("apart 0 0", NOT, NOT, OUTSIDE);
        x.due("apart 0 0 -1", OUTSIDE);
    }

    private static void treaty() {
        Doc.part("promise 22");
        Doc.sentence("TREATY: what = 0 how many grams, 1 what a FORGETS, 2 what b FORGETS (SETS of FACTS).");
        Subject x = Subject.of("t3;f0 4 0;f1 4 0;f1 1 0;k0 2;k1 1;k2 1;");
        x.dueRow("treaty 0 1", 4, 2, 1);
        x.dueRow("treaty 1 0", 4, 1, 2);
        x.dueRow("treaty 0 2", 0, 0, 0);
        Doc.sentence("UNKNOWN, OUTSIDE.");
        x.dueEach(UNKNOWN, "treaty 0 0 0", "treaty 2 2 0", "treaty 0 3 0", "treaty 3 0 0", "treaty -1 0 0", "treaty 0 -1 0", "treaty 3 3 0",
            "treaty 0 0 3", "treaty 3 0 -1");
        x.dueBounds("treaty 0 1 #", 0, 2);
        x.dueBounds("treaty 2 0 #", 0, 2);
        Subject.of("t1;").dueEach(UNKNOWN, "treaty 0 0 0", "treaty 0 1 0");
    }

    private static void odds() {
        Doc.part("promise 23");
        Doc.sentence("ODDS (q 0 .. 100).");
        Subject x = Subject.of(THREE);
        x.due("odds 0 0 0", 1000000000);
        x.due("odds 0 1 0", 0);
        x.due("odds 0 1 100", 1000000000);
        // 10 - 3 becomes 10 at most, with the lie forgotten
        x.due("odds 0 0 1", 1000000000);
        x.due("odds 1 1 1", 10000000);
        x.due("odds 1 1 99", 990000000);
        Doc.sentence("UNKNOWN, OUTSIDE.");
        x.dueKnown("odds # 0 0", 3);
        x.dueKnown("odds 0 # 0", 2);
        x.dueBounds("odds 0 0 #", 0, 100);
        x.dueBounds("odds 2 1 #", 0, 100);
        x.dueEach(UNKNOWN, "odds 3 0 101", "odds 0 2 101", "odds 3 2 -1");
    }

    private static void write() {
        Doc.part("promise 24");
        Doc.sentence("A WEIGHT behind SCALES (-999 .. 999): how many.");
        Subject x = Subject.of(THREE);
        x.due("write 0 7", 1);
        x.due("write 1 -999", 2);
        x.due("write 2 999", 3);
        x.due("told 9", 3);
        x.due("judge", 1);
        Doc.sentence("UNKNOWN, OUTSIDE, FULL (15).");
        x.dueEach(UNKNOWN, "write 3 0", "write -1 0", "write 3 1000");
        x.dueEach(OUTSIDE, "write 0 1000", "write 0 -1000", "write 0 2147483647", "write 0 -2147483648");
        for (int k = 4; k <= 15; k++) {
            x.due("write 0 7", k);
        }
        x.dueEach(FULL, "write 0 7", "write 2 -999");
        x.dueEach(UNKNOWN, "write 3 0", "write 3 1000");
        x.dueEach(OUTSIDE, "write 0 1000", "write 0 -1000");
        x.due("told 9", 15);
    }

    private static void tearAndJudge() {
        Doc.part("promise 25");
        Doc.sentence("SCALES are empty: how many they had.");
        Subject x = Subject.of(THREE);
        x.due("tear", 0);
        for (int round = 0; round < 2; round++) {
            for (int k = 1; k <= 15; k++) {
                x.due("write 0 7", k);
            }
            x.due("write 0 7", FULL);
            x.due("tear", 15);
            x.dueEach(0, "told 9", "tear");
        }
        Doc.part("promise 26");
        Doc.sentence("WRONG; NONE.");
        x.due("judge", NONE);
        x.due("write 0 7", 1);
        x.due("write 1 3", 2);
        x.due("write 0 8", 3);
        x.due("judge", 1);
        x.due("forget 1 1", 0);
        x.due("judge", 0);
        x.due("tear", 3);
        x.due("judge", NONE);
        new Subject().due("judge", NONE);
        // the last one of fifteen, and none of what was torn
        for (int k = 1; k <= 14; k++) {
            x.due("write 0 10", k);
        }
        x.due("judge", NONE);
        x.due("write 2 1", 15);
        x.due("judge", 14);
    }

    private static void seed() {
        Doc.part("promise 27");
        Doc.sentence("THE SEED becomes v (0 .. 2147483647): what it was.");
        Subject x = new Subject();
        x.due("seed 2147483647", 0);
        x.due("seed 0", 2147483647);
        x.due("seed 5", 0);
        x.due("seed 5", 5);
        Doc.sentence("OUTSIDE.");
        x.dueEach(OUTSIDE, "seed -1", "seed -2147483648");
        x.due("seed 0", 5);
        x.dueBounds("seed #", 0, Integer.MAX_VALUE);
    }

    private static void keep() {
        Doc.part("promise 28");
        Doc.sentence("IMAGE i becomes what is so: 1.");
        Subject x = Subject.of("t2;f0 4 0;k0 2;");
        x.dueEach(1, "keep 0", "keep 1", "keep 0");
        x.due("hour 1", 1);
        x.due("keep 0", 1);
        x.due("hour 1", 2);
        x.due("goBack 0", 1);
        x.due("told 6", 1);
        x.due("goBack 1", 1);
        x.due("told 6", 0);
        // without people, too
        Subject empty = new Subject();
        empty.due("seed 3", 0);
        empty.due("keep 1", 1);
        empty.due("seed 4", 3);
        empty.due("goBack 1", 1);
        empty.due("seed 4", 3);
        Doc.sentence("UNKNOWN.");
        x.dueKnown("keep #", 2);
        new Subject().dueKnown("keep #", 2);
    }

    private static void goBack() {
        Doc.part("promise 29");
        Doc.sentence("What is so becomes IMAGE i: 1.");
        Subject x = Subject.of("t2;f0 4 0;k0 2;");
        x.due("keep 1", 1);
        x.due("write 0 4", 1);
        x.feedAll("t2;");
        x.due("hour 9", 9);
        x.due("forget 1 0", 0);
        x.due("goBack 1", 1);
        x.dueEach(0, "told 6", "since 1 0");
        x.due("weight 0", 4);
        // scales and the text are no part of an image
        x.due("told 9", 1);
        x.due("told 5", 3);
        // it may be gone back to again, and the image does not go on with what is so
        x.due("tell 0 0", 1);
        x.due("hour 2", 2);
        x.due("goBack 1", 1);
        x.due("told 6", 0);
        x.due("since 0 0", NONE);
        Doc.sentence("UNKNOWN, NOT: it was not kept.");
        x.dueEach(NOT, "goBack 0", "goBack 0");
        x.dueEach(UNKNOWN, "goBack 2", "goBack -1", "goBack 2147483647", "goBack -2147483648");
        x.due("goBack 1", 1);
        x.due("land", 2);
        x.dueEach(NOT, "goBack 0", "goBack 1");
        x.due("keep 0", 1);
        x.due("goBack 0", 1);
        x.due("goBack 1", NOT);
        // a text with a fault takes no image away
        x.feedAll("x");
        x.due("land", -11);
        x.due("goBack 0", 1);
    }
}
