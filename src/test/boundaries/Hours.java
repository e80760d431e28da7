/** The sentences of part 2: heads, weight, and what comes about in an hour. */
final class Hours {
    private static final int NONE = Subject.NONE, NOT = Subject.NOT;

    private Hours() {
    }

    static void test() {
        Doc.part("heads");
        heads();
        weight();
        counting();
        forgetting();
        tellers();
        whatIsTold();
        allAtOnce();
        heardFirst();
    }

    private static void heads() {
        Doc.sentence("Each head HAS FACTS, each since an hour (what the text tells: since hour 0).");
        Subject x = Subject.of("t2;f0 1 0;f1 1 0;k0 3;");
        x.dueRow("since 0", 0, NONE);
        x.dueRow("since 1", 0, NONE);
        x.due("hour 7", 7);
        x.due("tell 0 1", 1);
        x.dueRow("since 0", 0, 7);
        Doc.sentence("HEADS of a FACT: those that HAVE it, the one it is of not counted (he may have it, too).");
        Subject all = Subject.of("t7;f3 1 0;f3 1 0;f3 1 0;k0 127;k1 119;k2 8;");
        all.dueRow("fact 0", 3, 1, 0, 127, 6);
        all.dueRow("fact 1", 3, 1, 0, 119, 6);
        all.dueRow("fact 2", 3, 1, 0, 8, 0);
        all.due("told 8", 12);
        all.due("person 3 2", 5);
        Subject alone = Subject.of("t1;f0 9 0;k0 1;");
        alone.due("fact 0 3", 1);
        alone.due("fact 0 4", 0);
        alone.due("weight 0", 0);
    }

    private static void weight() {
        Doc.sentence("WEIGHT of a PERSON: of all FACTS of his: G times HEADS, together; of a LIE that much less (it may be below 0).");
        Subject x = Subject.of("t3;f0 4 0;f0 9 1;f1 7 0;f0 1 0;k0 6;k1 2;k2 5;k3 7;");
        x.due("weight 0", 8 - 9 + 2);
        x.due("weight 1", 14);
        x.due("weight 2", 0);
        x.due("tell 2 1", 2);
        x.due("weight 0", 8 - 18 + 2);
        Subject most = Subject.of(everyFact("f0 9 0;"));
        most.due("weight 0", 432);
        Subject least = Subject.of(everyFact("f0 9 1;"));
        least.due("weight 0", -432);
        Subject one = Subject.of("t2;f0 1 1;k0 2;");
        one.due("weight 0", -1);
        one.due("forget 1 0", 0);
        one.due("weight 0", 0);
    }

    /** Eight facts of one person, each known by all six others. */
    private static String everyFact(String fact) {
        StringBuilder text = new StringBuilder("t7;" + fact.repeat(8));
        for (int f = 0; f < 8; f++) {
            text.append("k").append(f).append(" 126;");
        }
        return text.toString();
    }

    private static void counting() {
        Doc.sentence("HOURS are counted from 0.");
        Subject x = Subject.of("t1;");
        x.due("told 6", 0);
        Doc.sentence("AN HOUR: (a) HOURS are one more.");
        x.due("hour 1", 1);
        x.due("told 6", 1);
        x.due("drift 1", 2);
        x.due("told 6", 2);
    }

    private static void forgetting() {
        Doc.sentence("(b) each head FORGETS what it has had for H hours by then.");
        Subject first = Subject.of("t2;f0 1 0;k0 3;g1;");
        first.due("hour 1", 1);
        first.due("fact 0 3", 0);
        Subject last = Subject.of("t2;f0 1 0;k0 3;g99;");
        last.due("hour 98", 98);
        last.due("fact 0 3", 3);
        last.due("hour 1", 99);
        last.due("fact 0 3", 0);
        Subject later = Subject.of("t3;f0 1 0;k0 2;g3;");
        later.due("hour 1", 1);
        later.due("tell 2 0", 2);
        later.due("hour 1", 2);
        later.due("fact 0 3", 6);
        later.due("hour 1", 3);
        later.due("fact 0 3", 4);
        later.due("since 1 0", NONE);
        later.due("hour 1", 4);
        later.due("fact 0 3", 0);
        // who forgets in this hour tells nothing in it
        Subject both = Subject.of("t2;f0 1 0;k0 2;w0 1;g1;");
        both.due("hour 1", 1);
        both.due("fact 0 3", 0);
    }

    private static void tellers() {
        Doc.sentence("(c) each who does not keep quiet, in order,");
        Subject quiet = Subject.of("t2;f0 1 0;k0 1;w0 1;m0;");
        quiet.due("hour 99", 99);
        quiet.due("fact 0 3", 1);
        Subject hears = Subject.of("t3;f0 1 0;k0 1;w0 1;w1 2;m1;");
        hears.due("hour 1", 1);
        hears.due("fact 0 3", 3);
        hears.due("hour 99", 100);
        hears.due("fact 0 3", 3);
        Subject friendless = Subject.of("t3;f0 1 0;k0 1;w1 2;");
        friendless.due("hour 99", 99);
        friendless.due("fact 0 3", 1);
    }

    private static void whatIsTold() {
        Doc.sentence("tells the least FACT that he HAS (behind (b)) and some FRIEND of his does not,");
        Subject x = Subject.of("t2;f0 1 0;f0 1 0;f0 1 0;k0 3;k1 1;k2 1;w0 1;");
        x.due("hour 1", 1);
        x.due("person 1 2", 3);
        x.due("hour 1", 2);
        x.due("person 1 2", 7);
        x.due("hour 1", 3);
        x.due("told 8", 3);
        // the least fact of all is forgotten in this hour, so the next one is told
        Subject behind = Subject.of("t2;f0 1 0;f0 1 0;k0 1;w0 1;g2;");
        behind.due("hour 1", 1);
        behind.due("forget 1 0", 0);
        behind.due("tell 0 1", 0);
        behind.due("hour 1", 2);
        behind.due("person 0 2", 2);
        behind.due("person 1 2", 2);
        // a lesser fact to a greater friend comes ahead of a greater fact to a lesser friend
        Subject lesser = Subject.of("t3;f0 1 0;f0 1 0;k0 3;k1 1;w0 1;w0 2;");
        lesser.due("hour 1", 1);
        lesser.due("fact 0 3", 7);
        lesser.due("fact 1 3", 1);
        lesser.due("hour 1", 2);
        lesser.due("fact 1 3", 3);
        Doc.sentence("to the least such FRIEND: who HAS it since this hour");
        Subject y = Subject.of("t4;f0 1 0;k0 3;w0 3;w0 2;w0 1;");
        y.due("hour 1", 1);
        y.due("fact 0 3", 7);
        y.due("since 2 0", 1);
        y.due("since 3 0", NONE);
        y.due("hour 1", 2);
        y.due("fact 0 3", 15);
        y.due("since 3 0", 2);
        // the one that it is of is told, too
        Subject own = Subject.of("t2;f0 1 0;k0 2;w0 1;");
        own.due("hour 1", 1);
        own.due("since 0 0", 1);
        own.due("weight 0", 1);
    }

    private static void allAtOnce() {
        Doc.sentence("(all by what is so behind (b); to who is told twice it comes once).");
        Subject on = Subject.of("t3;f0 1 0;k0 1;w0 1;w1 2;");
        on.due("hour 1", 1);
        on.due("fact 0 3", 3);
        on.due("hour 1", 2);
        on.due("fact 0 3", 7);
        Subject back = Subject.of("t3;f0 1 0;k0 4;w0 1;w1 2;");
        back.due("hour 1", 1);
        back.due("fact 0 3", 6);
        back.due("hour 1", 2);
        back.due("fact 0 3", 7);
        // 0 and 1 both tell 2, though 3 does not have it, either
        Subject twice = Subject.of("t4;f3 5 0;k0 3;w0 2;w0 3;w1 2;w1 3;");
        twice.due("hour 1", 1);
        twice.due("fact 0 3", 7);
        twice.due("fact 0 4", 3);
        twice.due("weight 3", 15);
        twice.due("since 2 0", 1);
        twice.due("hour 1", 2);
        twice.due("fact 0 3", 15);
        // 0 tells 2 what 1 tells 3
        Subject apart = Subject.of("t4;f0 1 0;k0 3;w0 2;w1 3;");
        apart.due("hour 1", 1);
        apart.due("fact 0 3", 15);
        // two tell each other
        Subject cross = Subject.of("t2;f0 1 0;f1 1 0;k0 1;k1 2;w0 1;");
        cross.due("hour 1", 1);
        cross.due("person 0 2", 3);
        cross.due("person 1 2", 3);
        // who forgets in this hour is told in it by who did not forget
        Subject again = Subject.of("t2;f0 1 0;k0 2;w0 1;g2;");
        again.due("hour 1", 1);
        again.due("hour 1", 2);
        again.due("since 0 0", 1);
        again.due("since 1 0", 2);
    }

    private static void heardFirst() {
        Doc.sentence("What one HAS already, he has since he heard it first.");
        Subject x = Subject.of("t2;f0 1 0;k0 3;w0 1;g3;");
        x.due("hour 2", 2);
        x.due("tell 1 0", NOT);
        x.dueEach(0, "since 0 0", "since 1 0");
        x.due("hour 1", 3);
        x.due("fact 0 3", 0);
        // only behind forgetting is it heard first again
        x.due("tell 1 0", 1);
        x.due("since 1 0", 3);
        x.due("forget 1 0", 0);
        x.due("hour 1", 4);
        x.due("tell 1 0", 1);
        x.due("since 1 0", 4);
    }
}
