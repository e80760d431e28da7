/** The sentences of part 3: what is tried, scales, draws and images. */
final class Tried {
    private static final int NONE = Subject.NONE, UNKNOWN = Subject.UNKNOWN, OUTSIDE = Subject.OUTSIDE, NOT = Subject.NOT,
        FULL = Subject.FULL;
    private static final int BILLION = 1000000000;

    private Tried() {
    }

    static void test() {
        Doc.part("tried");
        nothingChanges();
        heavyAndWhen();
        least();
        leastAtItsEnds();
        trips();
        tripsOfUnlikeWeights();
        tripsWithLies();
        counted();
        lies();
        apart();
        treaty();
        odds();
        scales();
        seed();
        draws();
        images();
    }

    private static Subject busy() {
        Subject x = Subject.of("t4;f0 5 0;f1 3 1;f1 2 0;k0 6;k1 4;k2 1;w0 1;w1 2;w2 3;b10;b0;g5;");
        for (String call : new String[] {"seed 77", "hour 1", "keep 0", "drift 2", "write 0 5", "tell 1 0", "forget 3 0"}) {
            x.call(call);
        }
        x.feedAll("t2;b7");
        return x;
    }

    private static void nothingChanges() {
        Doc.sentence("TRIED; nothing changes by it.");
        String before = busy().look();
        for (String call : new String[] {"heavy 0 99", "when 0 0", "when 0 1", "least 15 0 -1", "least 15 1 0", "trips 15 0 -1",
            "trips 15 0 0", "counted 0 5 -1 0", "counted 0 5 0 1", "lies 1 0 2", "apart 0 3 1", "treaty 0 1 1", "odds 0 0 50",
            "odds 1 0 100", "judge", "fault", "told 8", "fact 0 3", "person 0 2", "since 1 0", "weight 0", "bridge 0"}) {
            Subject x = busy();
            x.dueTaken(call);
            Subject.dueAlike(call, x.look(), before);
        }
    }

    private static void heavyAndWhen() {
        Doc.sentence("HEAVY: WEIGHT of a PERSON behind n HOURS (0 .. 99).");
        Subject x = Subject.of("t2;f0 5 0;k0 2;b4;b5;g99;");
        x.due("heavy 0 0", 5);
        x.due("heavy 0 98", 5);
        x.due("heavy 0 99", 0);
        x.dueBounds("heavy 0 #", 0, 99);
        Doc.sentence("WHEN: the fewest HOURS (0 .. 99) behind which a BRIDGE bears a PERSON (WEIGHT at most B); NONE.");
        x.due("when 0 0", 99);
        x.due("when 0 1", 0);
        x.due("when 1 0", 0);
        x.due("hour 98", 98);
        x.due("when 0 0", 1);
        x.due("hour 1", 99);
        x.due("when 0 0", 0);
        // 1 tells 2 in the first hour, who keeps quiet and forgets behind 100 hours
        Subject late = Subject.of("t3;f0 5 0;k0 2;w1 2;m2;b0;b5;g99;");
        late.due("when 0 0", NONE);
        late.due("heavy 0 99", 5);
        late.due("hour 1", 1);
        late.due("when 0 0", 99);
        late.due("when 0 1", 98);
        // by what was heard in a later hour, too
        Subject heard = Subject.of("t2;f0 5 0;b0;g3;");
        heard.due("hour 5", 5);
        heard.due("tell 1 0", 1);
        heard.due("heavy 0 2", 5);
        heard.due("heavy 0 3", 0);
        heard.due("when 0 0", 3);
        Subject below = Subject.of("t2;f0 9 1;k0 2;b0;");
        below.due("when 0 0", 0);
        Subject never = Subject.of("t2;f0 1 0;k0 2;b0;");
        never.due("when 0 0", NONE);
    }

    private static void least() {
        Doc.sentence("LEAST for a SET and a BRIDGE: the fewest times that a head must FORGET a FACT that is no LIE of somebody of the SET,"
            + " so that WEIGHTS of the SET together are at most B:");
        // 0 weighs 10 + 4, 1 weighs 10 - 3, 2 weighs 18: together 39
        Subject x = Subject.of("t3;f0 5 0;f0 2 0;f1 5 0;f1 3 1;f2 9 0;k0 6;k1 6;k2 5;k3 4;k4 3;b0;b29;b30;b39;");
        x.due("least 7 3 -1", 0);
        x.due("least 7 2 -1", 1);
        x.due("least 7 1 -1", 2);
        x.due("least 7 0 -1", 7);
        x.due("least 3 0 -1", 5);
        x.due("least 4 0 -1", 2);
        x.due("least 2 1 -1", 0);
        Doc.sentence("FACTS of greater G first, of like ones the least: how many; of a FACT how often;");
        int[] often = {2, 1, 2, 0, 2};
        for (int f = 0; f < often.length; f++) {
            x.due("least 7 0 " + f, often[f]);
        }
        x.due("least 7 2 4", 1);
        x.due("least 7 2 0", 0);
        // of nobody of the set, and a lie
        x.due("least 3 0 4", 0);
        x.due("least 3 0 3", 0);
        Subject alike = Subject.of("t3;f0 1 0;f0 4 0;f1 4 0;k0 6;k1 6;k2 5;b4;b3;");
        alike.due("least 3 0 -1", 4);
        alike.due("least 3 0 0", 0);
        alike.due("least 3 0 1", 2);
        alike.due("least 3 0 2", 2);
        alike.due("forget 1 0", 1);
        alike.due("least 3 0 -1", 4);
        alike.due("forget 2 0", 0);
        alike.due("least 3 0 -1", 3);
        alike.due("least 3 0 1", 2);
        alike.due("least 3 0 2", 1);
        alike.due("least 3 1 2", 2);
    }

    private static void leastAtItsEnds() {
        Doc.sentence("NONE: not even if all of these are forgotten.");
        // a bridge bears 0 at least, and without what is no lie nobody weighs more: so it never comes to NONE
        Subject all = Subject.of("t7;" + "f0 9 0;".repeat(8) + "k0 126;k1 126;k2 126;k3 126;k4 126;k5 126;k6 126;k7 126;b0;b431;b432;");
        all.due("least 127 0 -1", 48);
        all.due("least 1 0 7", 6);
        all.due("least 1 1 -1", 1);
        all.due("least 1 1 0", 1);
        all.due("least 1 2 -1", 0);
        all.due("least 126 0 -1", 0);
        all.due("least 0 0 -1", 0);
        all.due("least 0 0 0", 0);
        Subject light = Subject.of("t3;f0 1 0;f0 9 0;k0 6;k1 6;b0;b1;b18;b19;");
        light.dueRow("least 1 0", 2, 2);
        light.dueRow("least 1 1", 1, 2);
        light.dueRow("least 1 2", 0, 1);
        light.dueRow("least 1 3", 0, 1);
        // his own head does not count
        Subject own = Subject.of("t2;f0 4 0;k0 3;b0;");
        own.due("least 1 0 -1", 1);
        own.due("least 1 0 0", 1);
        Subject below = Subject.of("t2;f0 4 1;f0 1 0;k0 2;k1 2;b0;");
        below.due("least 1 0 -1", 0);
        below.due("least 1 0 1", 0);
    }

    private static void trips() {
        Doc.sentence("TRIPS: all of a SET over a BRIDGE, some at a time whose WEIGHTS together are at most B: the fewest groups;");
        // each of the seven weighs 9
        Subject x = Subject.of("t7;f0 9 0;f1 9 0;f2 9 0;f3 9 0;f4 9 0;f5 9 0;f6 9 0;k0 2;k1 1;k2 1;k3 1;k4 1;k5 1;k6 1;b9;b8;b63;b62;");
        x.due("trips 127 0 -1", 7);
        x.due("trips 127 2 -1", 1);
        x.due("trips 127 3 -1", 2);
        x.due("trips 1 0 -1", 1);
        Doc.sentence("the i-th group (the first one is the least SET by which there are so few, then so the next); NONE.");
        x.dueRow("trips 127 0", 1, 2, 4, 8, 16, 32, 64, NONE);
        x.dueRow("trips 127 2", 127, NONE);
        x.dueRow("trips 127 3", 1, 126, NONE);
        x.dueRow("trips 80 0", 16, 64, NONE);
        x.dueRow("trips 127 1", NONE, NONE);
        x.due("trips 127 1 -1", NONE);
        x.due("trips 1 1 -1", NONE);
        x.dueEach(NONE, "trips 127 0 -2", "trips 127 0 2147483647", "trips 127 0 -2147483648");
        Doc.sentence("(Of the empty SET: 0.)");
        x.due("trips 0 0 -1", 0);
        x.due("trips 0 1 -1", 0);
        x.dueRow("trips 0 0", NONE, NONE);
    }

    private static void tripsOfUnlikeWeights() {
        // 6, 6, 4, 4: the least ones that go together, or go alone, leave too much
        Subject x = Subject.of("t4;f0 6 0;f1 6 0;f2 4 0;f3 4 0;k0 2;k1 1;k2 1;k3 1;b10;");
        x.due("trips 15 0 -1", 2);
        x.dueRow("trips 15 0", 5, 10, NONE);
    }

    private static void tripsWithLies() {
        // 0 weighs 9, 1 weighs -8, 2 nothing
        Subject x = Subject.of("t3;f0 9 0;f1 4 1;k0 2;k1 5;b1;b0;");
        x.due("trips 3 0 -1", 1);
        x.due("trips 3 0 0", 3);
        x.due("trips 3 1 -1", NONE);
        x.due("trips 1 0 -1", NONE);
        x.due("trips 7 0 0", 7);
        x.due("trips 6 1 0", 6);
        x.due("trips 4 1 0", 4);
    }

    private static void counted() {
        Doc.sentence("COUNTED: WEIGHT of a PERSON is w (-999 .. 999): ways in which each of his FACTS has 0 to N less 1 HEADS, so that it is so:"
            + " how many;");
        // 2 a - 3 c, each of them 0 to 2
        Subject x = Subject.of("t3;f0 2 0;f0 3 1;f1 1 0;");
        x.due("counted 0 4 -1 0", 1);
        x.due("counted 0 5 -1 0", 0);
        x.due("counted 0 -6 -1 0", 1);
        x.due("counted 0 -7 -1 0", 0);
        x.due("counted 0 0 -1 0", 1);
        x.due("counted 2 0 -1 0", 1);
        x.due("counted 2 1 -1 0", 0);
        x.due("counted 2 -1 -1 0", 0);
        x.dueEach(0, "counted 0 999 -1 0", "counted 0 -999 -1 0");
        x.dueBounds("counted 0 # -1 0", -999, 999);
        x.dueBounds("counted 0 # 0 0", -999, 999);
        Subject alone = Subject.of("t1;f0 9 0;f0 9 1;");
        alone.due("counted 0 0 -1 0", 1);
        alone.due("counted 0 9 -1 0", 0);
        alone.due("counted 0 0 1 1", 0);
        Subject most = Subject.of("t7;" + "f0 9 0;".repeat(8));
        most.due("counted 0 432 -1 0", 1);
        most.due("counted 0 423 -1 0", 8);
        most.due("counted 0 433 -1 0", 0);
        most.due("counted 0 -1 -1 0", 0);
        Doc.sentence("of one of his FACTS the fewest HEADS, the most; NONE: no way.");
        Subject two = Subject.of("t4;f0 1 0;f0 1 0;f1 1 0;");
        two.due("counted 0 3 -1 0", 4);
        two.dueRow("counted 0 3 0", 0, 3);
        two.dueRow("counted 0 3 1", 0, 3);
        two.dueRow("counted 0 5 1", 2, 3);
        two.dueRow("counted 0 6 0", 3, 3);
        two.dueRow("counted 0 0 0", 0, 0);
        two.dueRow("counted 0 7 0", NONE, NONE);
        two.dueRow("counted 0 -1 0", NONE, NONE);
        two.dueRow("counted 0 999 0", NONE, NONE);
        two.dueRow("counted 0 0 2", NONE, NONE);
    }

    private static void lies() {
        Doc.sentence("LIES of a PERSON, by w (-999 .. 999): SETS of his FACTS that would be LIES, the others not, with HEADS as they are,"
            + " so that his WEIGHT is w (a SET of FACTS): how many; the least (NONE);");
        // of 0 facts 0 and 2 weigh 4 and 6 (no matter that one is a lie), fact 7 weighs 2
        String text = "t3;f0 2 0;f1 9 0;f0 3 1;f1 9 0;f1 9 0;f1 9 0;f1 9 0;f0 1 0;k0 6;k1 5;k2 6;k7 7;";
        Subject x = Subject.of(text);
        x.dueRow("lies 0 12", 1, 0, 0);
        x.dueRow("lies 0 -12", 1, 133, 133);
        x.dueRow("lies 0 0", 2, 4, 0);
        x.dueRow("lies 0 8", 1, 128, 128);
        x.dueRow("lies 0 13", 0, NONE, 0);
        x.dueRow("lies 0 -13", 0, NONE, 0);
        x.dueRow("lies 0 999", 0, NONE, 0);
        x.dueRow("lies 0 -999", 0, NONE, 0);
        x.dueBounds("lies 0 # 0", -999, 999);
        x.dueRow("lies 2 0", 1, 0, 0);
        x.dueRow("lies 2 1", 0, NONE, 0);
        Doc.sentence("SURE: those in all of them (0 without).");
        // fact 7 without heads may be a lie or not
        x.due("forget 1 7", 1);
        x.due("forget 2 7", 0);
        x.dueRow("lies 0 10", 2, 0, 0);
        x.dueRow("lies 0 -10", 2, 5, 5);
        x.dueRow("lies 0 2", 2, 1, 1);
        x.dueRow("lies 0 -2", 2, 4, 4);
        x.dueRow("lies 0 0", 0, NONE, 0);
    }

    private static void apart() {
        Doc.sentence("APART: the fewest FRIENDSHIPS to be broken so that a FACT cannot come from those who HAVE it to a PERSON who does not"
            + " (by FRIENDS, of whom those who keep quiet tell nothing): how many; which (a SET of FRIENDSHIPS, of like ones the least).");
        // 0 and 1 are friends, and each is of all five others
        String twelve = "w0 1;w0 2;w0 3;w0 4;w0 5;w0 6;w1 2;w1 3;w1 4;w1 5;w1 6;w2 3;";
        Subject x = Subject.of("t7;f0 1 0;k0 1;" + twelve);
        x.dueRow("apart 0 1", 6, 63);
        x.dueRow("apart 0 6", 2, 32 + 1024);
        x.dueRow("apart 0 2", 3, 2 + 64 + 2048);
        Subject last = Subject.of("t7;f0 1 0;k0 1;w0 1;w0 2;w0 3;w0 4;w0 5;w1 2;w1 3;w1 4;w1 5;w2 3;w2 4;w5 6;");
        last.dueRow("apart 0 6", 1, 2048);
        Subject quiet = Subject.of("t4;f0 1 0;k0 1;w0 1;w1 3;w0 2;w2 3;m1;");
        quiet.dueRow("apart 0 3", 1, 4);
        // to who keeps quiet it comes, by 3 too
        quiet.dueRow("apart 0 1", 2, 3);
        // from two who have it, and one who keeps quiet
        Subject many = Subject.of("t4;f0 1 0;k0 7;w2 3;w1 3;w0 3;m1;");
        many.dueRow("apart 0 3", 2, 5);
        Doc.sentence("(0, if it cannot come.)");
        Subject none = Subject.of("t4;f0 1 0;f0 1 0;f0 1 0;k0 1;k2 8;w0 1;w2 3;m3;");
        none.dueRow("apart 0 2", 0, 0);
        none.dueRow("apart 1 0", 0, 0);
        none.dueRow("apart 2 2", 0, 0);
        Subject friendless = Subject.of("t2;f0 1 0;k0 1;");
        friendless.dueRow("apart 0 1", 0, 0);
        Doc.sentence("NOT: he HAS it.");
        x.dueRow("apart 0 0", NOT, NOT, OUTSIDE);
        none.due("apart 2 3 0", NOT);
        none.due("tell 2 0", 1);
        none.due("apart 0 2 0", NOT);
        none.due("forget 2 0", 0);
        none.due("apart 0 2 0", 0);
    }

    private static void treaty() {
        Doc.sentence("TREATY of two: each FORGETS some FACTS of the other one that are no LIES, the G's of these being alike together:"
            + " the most that may be;");
        Subject full = Subject.of("t2;f0 9 0;f0 9 0;f0 9 0;f0 9 0;f1 9 0;f1 9 0;f1 9 0;f1 9 0;k0 2;k1 2;k2 2;k3 2;k4 1;k5 1;k6 1;k7 1;");
        full.dueRow("treaty 0 1", 36, 240, 15);
        full.dueRow("treaty 1 0", 36, 15, 240);
        full.due("forget 0 4", 0);
        full.dueRow("treaty 0 1", 27, 224, 7);
        Subject one = Subject.of("t2;f0 1 0;f1 1 0;k0 2;k1 1;");
        one.dueRow("treaty 0 1", 1, 2, 1);
        // all that there is on one side, nothing on the other
        Subject onesided = Subject.of("t2;" + "f1 9 0;".repeat(8) + "k0 1;k1 1;k2 1;k3 1;k4 1;k5 1;k6 1;k7 1;");
        onesided.dueRow("treaty 0 1", 0, 0, 0);
        onesided.dueRow("treaty 1 0", 0, 0, 0);
        Subject lie = Subject.of("t2;f0 3 1;f1 3 0;k0 2;k1 1;");
        lie.dueRow("treaty 0 1", 0, 0, 0);
        // each has only what is of himself
        Subject own = Subject.of("t2;f0 3 0;f1 3 0;k0 1;k1 2;");
        own.dueRow("treaty 0 1", 0, 0, 0);
        Subject unlike = Subject.of("t2;f0 3 0;f1 4 0;k0 2;k1 1;");
        unlike.dueRow("treaty 0 1", 0, 0, 0);
        Subject without = Subject.of("t2;");
        without.dueRow("treaty 0 1", 0, 0, 0);
        Doc.sentence("which the one FORGETS, which the other one (SETS of FACTS, of like ones the least).");
        Subject x = Subject.of("t3;f0 2 0;f0 3 0;f0 5 0;f1 4 0;f1 1 0;f1 5 0;f2 9 0;f0 9 0;k0 2;k1 2;k2 2;k3 1;k4 1;k5 1;k6 3;k7 4;");
        // both can come to 10: 2 + 3 + 5 and 4 + 1 + 5
        x.dueRow("treaty 0 1", 10, 56, 7);
        x.due("forget 0 3", 0);
        // to 5: fact 5 (of 0 to forget 1, 5 and 6), of 1 facts 0 and 1 rather than 2
        x.dueRow("treaty 0 1", 5, 32, 3);
        x.dueRow("treaty 1 0", 5, 3, 32);
    }

    private static void odds() {
        Doc.sentence("ODDS that a BRIDGE bears a PERSON, if each of HEADS of his FACTS FORGETS by q of a hundred: of a BILLION:"
            + " FACT by FACT, HEAD by HEAD what is there times q / 100 (cut) FORGETS, the rest not; all by which WEIGHT is at most B.");
        Subject x = Subject.of("t3;f0 4 0;f0 2 1;k0 7;k1 4;b6;b5;b8;b0;");
        x.due("odds 0 0 0", BILLION);
        x.due("odds 0 1 0", 0);
        x.due("odds 0 3 100", BILLION);
        // 8 - 2: only with both heads of 4 grams there it is above 5
        x.due("odds 0 1 50", BILLION - BILLION / 4);
        x.due("odds 0 0 50", BILLION - BILLION / 8);
        x.due("odds 0 2 50", BILLION);
        x.due("odds 1 3 50", BILLION);
        // 99 of a hundred: behind four heads 10 have not forgotten, behind the fifth 10 - 9, behind the sixth 1 - 0 (cut)
        Subject cut = Subject.of("t7;f0 1 0;k0 126;b5;b0;");
        cut.due("odds 0 0 99", BILLION - 1);
        cut.due("odds 0 0 0", 0);
        cut.due("odds 0 1 100", BILLION);
        // what is there is all that weighs alike: behind nine heads C(9, k) times 1953125 with k forgotten, of which the tenth
        // halves 126 times 1953125 (k = 4) without a cut; cut by each way that came there it would be 63 less
        Subject alike = Subject.of("t6;f0 1 0;f0 1 0;k0 62;k1 62;b5;b9;b0;");
        alike.due("odds 0 0 50", BILLION / 2 + 63 * 1953125);
        alike.due("odds 0 1 50", BILLION - 976563);
        alike.due("odds 0 2 50", 976562);
        Subject most = Subject.of("t7;" + "f0 9 0;".repeat(8) + "k0 126;k1 126;k2 126;k3 126;k4 126;k5 126;k6 126;k7 126;b0;b431;b432;");
        most.due("odds 0 0 100", BILLION);
        most.due("odds 0 1 0", 0);
        most.due("odds 0 2 0", BILLION);
        // a lie comes first: above 2 only by 5 with the lie forgotten
        Subject lieFirst = Subject.of("t2;f0 3 1;f0 5 0;k0 2;k1 2;b2;b1;");
        lieFirst.due("odds 0 0 50", BILLION - BILLION / 4);
        lieFirst.due("odds 0 1 50", BILLION / 2);
        Subject lies = Subject.of("t7;" + "f0 9 1;".repeat(8) + "k0 126;k1 126;k2 126;k3 126;k4 126;k5 126;k6 126;k7 126;b0;");
        lies.due("odds 0 0 0", BILLION);
        lies.due("odds 0 0 100", BILLION);
        lies.due("odds 0 0 50", BILLION);
    }

    private static void scales() {
        Doc.sentence("SCALES (15 at most): WEIGHT of a PERSON was told: WRONG: the first that is otherwise now; NONE.");
        Subject x = Subject.of("t2;f0 4 0;f1 3 1;k0 2;k1 1;");
        x.due("judge", NONE);
        for (int k = 1; k <= 14; k++) {
            x.due("write 0 4", k);
        }
        x.due("judge", NONE);
        x.due("write 1 3", 15);
        x.due("judge", 14);
        x.due("write 0 4", FULL);
        x.due("told 9", 15);
        x.due("forget 1 0", 0);
        x.due("judge", 0);
        x.due("tell 1 0", 1);
        x.due("judge", 14);
        x.due("tear", 15);
        x.due("judge", NONE);
        x.due("write 1 -3", 1);
        x.due("judge", NONE);
        x.due("forget 0 1", 0);
        x.due("judge", 0);
    }

    private static void seed() {
        Doc.sentence("BY DRAWS: THE SEED (0 at first: each DRAW it becomes it times 1103515245 and 12345, left over by 2 to the 31;");
        new Subject().due("seed 0", 0);
        // without facts an hour takes one draw
        Subject x = Subject.of("t7;");
        int[][] steps = {{0, 12345}, {1, 1103527590}, {2, 59559187}, {2147483647, 1043980748}, {1073741824, 1073754169},
            {2088216195, 0}, {230538014, 2147483647}};
        int hours = 0;
        for (int[] step : steps) {
            hours++;
            x.call("seed " + step[0]);
            x.due("drift 1", hours);
            x.due("seed 0", step[1]);
        }
        // the greatest and 0 are gone on from
        x.call("seed 230538014");
        x.due("drift 2", hours + 2);
        x.due("seed 2088216195", 1043980748);
        x.due("drift 2", hours + 4);
        x.due("seed 0", 12345);
    }

    private static void draws() {
        Doc.sentence("the DRAW of n is it / 65536, left over by n): n HOURS: ahead of each a DRAW of PEOPLE, a DRAW of FACTS (if there are any):");
        String text = "t7;" + "f0 1 0;".repeat(8);
        // from the greatest seed: 1043980748 / 65536 is 15929, of 7: 4; 288979989 / 65536 is 4409, of 8: 1
        Subject x = Subject.of(text);
        x.call("seed 2147483647");
        x.due("drift 1", 1);
        x.due("since 4 1", 0);
        x.due("told 8", 1);
        x.due("seed 230538014", 288979989);
        // from there 2147483647 / 65536 is 32767, of 7: 0; 15929 of 8: 1
        x.due("drift 1", 2);
        x.due("since 0 1", 1);
        x.due("seed 2088216195", 1043980748);
        // from there 0, and 12345 / 65536 is 0
        x.due("drift 1", 3);
        x.due("since 0 0", 2);
        x.due("seed 0", 12345);
        // the seeds from which it becomes 65535 and 65536
        Subject cut = Subject.of("t7;f6 1 0;");
        cut.call("seed 2032319262");
        cut.due("drift 1", 1);
        cut.due("fact 0 3", 1);
        cut.call("seed 1742513795");
        cut.due("drift 1", 2);
        cut.due("fact 0 3", 3);
        Subject one = Subject.of("t1;f0 1 0;");
        one.due("drift 1", 1);
        one.due("since 0 0", 0);
        one.due("seed 0", 1406932606);
        one.due("drift 1", 2);
        one.due("since 0 0", NONE);
        Doc.sentence("if he HAS it, he FORGETS it, else he HAS it since now.");
        one.due("hour 5", 7);
        one.due("drift 1", 8);
        one.due("since 0 0", 7);
        one.due("drift 1", 9);
        one.due("since 0 0", NONE);
        // what he HAS since now he has had for an hour by then, and may have told by then
        Subject brief = Subject.of("t1;f0 1 0;g1;");
        brief.due("drift 1", 1);
        brief.due("since 0 0", NONE);
        Subject chat = Subject.of("t2;f0 1 0;w0 1;");
        chat.due("drift 1", 1);
        chat.due("since 0 0", 0);
        chat.due("since 1 0", 1);
    }

    private static void images() {
        Doc.sentence("IMAGES 0, 1 keep who HAS what since when, HOURS, THE SEED.");
        Subject x = Subject.of("t2;f0 4 0;k0 2;");
        x.dueKnown("keep #", 2);
        x.due("hour 3", 3);
        x.due("tell 0 0", 1);
        x.due("seed 8", 0);
        x.due("keep 1", 1);
        x.due("forget 1 0", 0);
        x.due("forget 0 0", 0);
        x.due("hour 1", 4);
        x.due("tell 0 0", 0);
        x.due("tell 1 0", 1);
        x.due("seed 9", 8);
        x.due("goBack 0", 1);
        x.dueEach(0, "since 1 0", "told 6", "seed 5");
        x.due("since 0 0", NONE);
        x.due("goBack 1", 1);
        x.due("since 0 0", 3);
        x.due("since 1 0", 0);
        x.due("told 6", 3);
        x.due("seed 5", 8);
        x.due("goBack 0", 1);
        x.due("told 6", 0);
        x.due("goBack 2", UNKNOWN);
    }
}
