/** The sentences of part 1, THE LAND: the bounds of its text, and each kind of fault with the letter it is told at. */
final class LandTold {
    private static final int UNKNOWN = Subject.UNKNOWN, FULL = Subject.FULL;
    private static final String EIGHT_FACTS = "f0 1 0;".repeat(8);
    private static final String TWELVE_FRIENDSHIPS = "w0 1;w0 2;w0 3;w0 4;w0 5;w0 6;w1 2;w1 3;w1 4;w1 5;w1 6;w2 3;";

    private LandTold() {
    }

    static void test() {
        Doc.part("land");
        letters();
        people();
        facts();
        knowers();
        friendships();
        quiet();
        bridges();
        memory();
        numbers();
        words();
        place();
        leastOfFaults();
        cannotStand();
        eachLetter();
        outOfBounds();
        thereIsNot();
        tooMany();
        again();
        empty();
    }

    private static void good(String text, int people) {
        Subject.dueGood(text, people);
    }

    private static void fault(String text, int kind, int place) {
        Subject.dueFault(text, kind, place);
    }

    private static String blanks(int n) {
        return " ".repeat(n);
    }

    private static void letters() {
        Doc.sentence("THE LAND is told in a text (250 letters at most): clauses:");
        Subject x = Subject.of("t2;" + blanks(244) + "b7;");
        x.due("told 0", 2);
        x.due("bridge 0", 7);
        Subject y = new Subject();
        y.feedAll("t2;b7" + blanks(245));
        y.due("feed 59", FULL);
        y.due("land", -11);
        y.due("fault", 250);
        Subject z = new Subject();
        z.feedAll("t2;b7" + blanks(244) + ";");
        z.due("feed 120", FULL);
        z.due("land", 2);
        z.due("bridge 0", 7);
    }

    private static void people() {
        Doc.sentence("'t' N ';' (PEOPLE 0 .. N less 1, N 1 .. 7;");
        good("t1;", 1);
        good("t7;", 7);
        fault("t0;", 2, 1);
        fault("t8;", 2, 1);
        fault("t999;", 2, 1);
        for (int n = 1; n <= 7; n++) {
            Subject x = Subject.of("t" + n + ";");
            x.due("told 0", n);
            x.due("weight " + (n - 1), 0);
            x.due("weight " + n, UNKNOWN);
        }
        Doc.sentence("first, once)");
        for (String clause : new String[] {"f0 1 0;", "k0 0;", "w0 1;", "m0;", "b1;", "g1;"}) {
            fault(clause + "t2;", 1, 0);
            fault("  " + clause, 1, 2);
        }
        fault("t1;t1;", 3, 3);
        fault("t7;b1;t7;", 3, 6);
        fault("t2;t8;", 3, 3);
    }

    private static void facts() {
        Doc.sentence("'f' P G L ';' (8 FACTS at most:");
        Subject x = Subject.of("t1;" + EIGHT_FACTS);
        x.due("told 1", 8);
        x.due("fact 7 1", 1);
        fault("t1;" + EIGHT_FACTS + "f0 1 0;", 3, 59);
        good("t1;", 1);
        Doc.sentence("of PERSON P,");
        Subject.of("t7;f6 1 0;").due("fact 0 0", 6);
        Subject.of("t1;f0 1 0;").due("fact 0 0", 0);
        fault("t7;f7 1 0;", 2, 4);
        fault("t1;f1 1 0;", 2, 4);
        Doc.sentence("weighs G, 1 .. 9;");
        Subject.of("t1;f0 1 0;").due("fact 0 1", 1);
        Subject.of("t1;f0 9 0;").due("fact 0 1", 9);
        fault("t1;f0 0 0;", 2, 6);
        fault("t1;f0 10 0;", 2, 6);
        Doc.sentence("L 1: a LIE, 0: not)");
        Subject.of("t1;f0 1 0;").due("fact 0 2", 0);
        Subject.of("t1;f0 1 1;").due("fact 0 2", 1);
        fault("t1;f0 1 2;", 2, 8);
        Subject last = Subject.of("t1;" + "f0 1 0;".repeat(7) + "f0 1 1;");
        last.due("fact 6 2", 0);
        last.due("fact 7 2", 1);
    }

    private static void knowers() {
        Doc.sentence("'k' F S ';' (FACT F told ahead");
        good("t1;f0 1 0;k0 0;", 1);
        good("t1;" + EIGHT_FACTS + "k7 1;k0 1;", 1);
        fault("t1;k0 0;", 2, 4);
        fault("t1;k0 0;f0 1 0;", 2, 4);
        fault("t1;f0 1 0;k1 0;f0 1 0;", 2, 11);
        fault("t1;" + EIGHT_FACTS + "k8 0;", 2, 60);
        Doc.sentence("is known by a SET S, 0 .. 127 as told,");
        Subject.of("t7;f0 1 0;k0 0;").due("fact 0 3", 0);
        Subject.of("t7;f0 1 0;k0 127;").due("fact 0 3", 127);
        fault("t7;f0 1 0;k0 128;", 2, 13);
        fault("t7;f0 1 0;k0 999;", 2, 13);
        Doc.sentence("of PEOPLE there are;");
        for (int n = 1; n <= 6; n++) {
            int all = (1 << n) - 1;
            Subject.of("t" + n + ";f0 1 0;k0 " + all + ";").due("fact 0 3", all);
            fault("t" + n + ";f0 1 0;k0 " + (all + 1) + ";", 2, 13);
            fault("t" + n + ";f0 1 0;k0 127;", 2, 13);
        }
        Doc.sentence("each once; untold: by nobody)");
        fault("t2;f0 1 0;k0 0;k0 0;", 4, 16);
        fault("t2;f0 1 0;k0 3;k0 3;", 4, 16);
        fault("t1;f0 1 0;f0 1 0;k0 0;k1 0;k0 0;", 4, 28);
        good("t2;f0 1 0;f0 1 0;k0 3;k1 3;", 2);
        Subject x = Subject.of("t7;f0 1 0;f0 1 0;k1 127;");
        x.due("fact 0 3", 0);
        x.due("fact 1 3", 127);
    }

    private static void friendships() {
        Doc.sentence("'w' A B ';' (12 FRIENDSHIPS at most,");
        Subject x = Subject.of("t7;" + TWELVE_FRIENDSHIPS);
        x.due("told 2", 12);
        x.due("person 2 0", 1 + 2 + 8);
        x.due("person 3 0", 1 + 2 + 4);
        fault("t7;" + TWELVE_FRIENDSHIPS + "w5 6;", 3, 63);
        Doc.sentence("of unlike PEOPLE;");
        fault("t2;w0 0;", 4, 6);
        fault("t2;w1 1;", 4, 6);
        fault("t1;w0 0;", 4, 6);
        good("t2;w1 0;", 2);
        Doc.sentence("each two once, either way round)");
        fault("t3;w0 1;w0 1;", 4, 11);
        fault("t3;w0 1;w1 0;", 4, 11);
        fault("t3;w1 0;w0 1;", 4, 11);
        good("t3;w0 1;w1 2;w2 0;", 3);
    }

    private static void quiet() {
        Doc.sentence("'m' P ';' (P keeps quiet; each once)");
        Subject all = Subject.of("t7;m6;m5;m4;m3;m2;m1;m0;");
        all.due("told 7", 127);
        fault("t7;m6;m5;m4;m3;m2;m1;m0;m6;", 4, 25);
        fault("t1;m0;m0;", 4, 7);
        fault("t1;m1;", 2, 4);
    }

    private static void bridges() {
        Doc.sentence("'b' B ';' (4 BRIDGES at most: bears B, 0 .. 999)");
        Subject x = Subject.of("t1;b0;b999;b5;b5;");
        x.due("told 3", 4);
        x.dueRow("bridge", 0, 999, 5, 5, UNKNOWN);
        fault("t1;b0;b999;b5;b5;b1;", 3, 17);
        fault("t1;b1000;", 2, 4);
    }

    private static void memory() {
        Doc.sentence("'g' H ';' (a head FORGETS what it heard H hours ago, 1 .. 99; untold: never; once).");
        Subject.of("t1;g1;").due("told 4", 1);
        Subject.of("t1;g99;").due("told 4", 99);
        fault("t1;g0;", 2, 4);
        fault("t1;g100;", 2, 4);
        Subject never = Subject.of("t2;f0 1 0;k0 2;");
        never.due("told 4", 0);
        for (int k = 1; k <= 400; k++) {
            never.due("hour 99", 99 * k);
        }
        never.due("since 1 0", 0);
        fault("t1;g9;g9;", 3, 6);
    }

    private static void numbers() {
        Doc.sentence("NUMBERS have one to three figures;");
        for (String number : new String[] {"5", "05", "005"}) {
            Subject.of("t1;b" + number + ";").due("bridge 0", 5);
        }
        Subject.of("t001;b100;").due("bridge 0", 100);
        fault("t1;b;", 1, 4);
        fault("t1;b0005;", 2, 4);
        fault("t1;b4294967301;", 2, 4);
        fault("t1;b18446744073709551621;", 2, 4);
        fault("t1;b" + "0".repeat(246), 2, 4);
        Doc.sentence("two NUMBERS side by side need one.");
        good("t3;w1 2;", 3);
        good("t3;w1   2;", 3);
        fault("t3;w12;", 2, 4);
        fault("t3;w01;", 1, 6);
        fault("t3;f0 10;", 2, 6);
        fault("t7;f0 1 0;k0127;", 2, 11);
    }

    private static void words() {
        Doc.sentence("a word is one letter;");
        fault("tt1;", 1, 1);
        fault("T1;", 1, 0);
        fault("t1;bb1;", 1, 4);
        fault("t1;B1;", 1, 3);
        Doc.sentence("blanks (32) may stand anywhere but within NUMBERS;");
        Subject x = Subject.of("  t  2  ;  f  1  9  0  ;  k  0  3  ;  w  0  1  ;  m  1  ;  b  12  ;  g  9  ;  ");
        x.dueRow("told", 2, 1, 1, 1, 9, 0, 0, 2, 1, 0);
        fault("t1;b1 2;", 1, 6);
        fault("t1;b1 2 3;", 1, 6);
        for (int letter : new int[] {0, 9, 10, 13, 31, 33, 160, 255}) {
            fault("t1;" + (char) letter + "b1;", 1, 3);
            fault((char) letter + "t1;", 1, 0);
            fault("t" + (char) letter + "1;", 1, 1);
            fault("t1" + (char) letter + ";", 1, 2);
        }
    }

    private static void place() {
        Doc.sentence("FAULTS, at the first letter that has one (the end at the text's length),");
        fault("x", 1, 0);
        fault("t", 1, 1);
        fault("t ", 1, 2);
        fault("t1", 1, 2);
        fault("t1   ", 1, 5);
        fault("t1;f0 1 0", 1, 9);
        fault("t1;f0 1", 1, 7);
        fault("t1;" + blanks(246) + "b", 1, 250);
        fault("t1;" + blanks(246) + "x", 1, 249);
        // each of these has a second fault at a later letter
        fault("t9x", 2, 1);
        fault("t9;t9;", 2, 1);
        fault("t2;w1 1x", 4, 6);
        fault("t2;m0;m0;x", 4, 7);
        fault("t2;f2 0 2;", 2, 4);
        fault("t2;f0 0 2;", 2, 6);
        fault("t2;f0 1 0;k0 1;k0 9;", 4, 16);
        fault("t2;w2 2;", 2, 4);
        fault("t1;g1;g0;", 3, 6);
        fault("t1;b1000", 2, 4);
    }

    private static void leastOfFaults() {
        Doc.sentence("of these the least:");
        // 1 and 3: the word is there again, where no word can stand
        fault("t2 t2;", 1, 3);
        fault("t1;g1;b g1;", 1, 8);
        fault("t1;g1 g1;", 1, 6);
        fault("t1;" + EIGHT_FACTS + "f", 3, 59);
        // 2 and 4: the same again, in four figures
        fault("t2;m1;m0001;", 2, 7);
        fault("t2;w0 0000;", 2, 6);
        fault("t2;w0 1;w1 0000;", 2, 11);
        fault("t2;f0 1 0;k0 1;k0000 1;", 2, 16);
        fault("t2;m1;m001;", 4, 7);
        fault("t2;w0 000;", 4, 6);
        fault("t2;f0 1 0;k0 1;k000 1;", 4, 16);
    }

    private static void cannotStand() {
        Doc.sentence("1 it cannot stand there (a letter that is no word, another word first than 't').");
        fault(";", 1, 0);
        fault("1;", 1, 0);
        fault("t1;;", 1, 3);
        fault("t1;1;", 1, 3);
        fault("t;", 1, 1);
        fault("t-1;", 1, 1);
        fault("t+1;", 1, 1);
        fault("t1 1;", 1, 3);
        fault("t1b1;", 1, 2);
        fault("t2;f0 1;", 1, 7);
        fault("t2;f0;", 1, 5);
        fault("t2;f;", 1, 4);
        fault("t2;f0 1 0 1;", 1, 10);
        fault("t2;f0 1 0;k0;", 1, 12);
        fault("t2;f0 1 0;k0 1 1;", 1, 15);
        fault("t2;w0;", 1, 5);
        fault("t2;w0 1 1;", 1, 8);
        fault("t2;m;", 1, 4);
        fault("t2;m0 1;", 1, 6);
        fault("t2;b;", 1, 4);
        fault("t2;g;", 1, 4);
        fault("t2;g1 1;", 1, 6);
    }

    /** All 256 letters where a first word, a next word, a number or a ';' is due. */
    private static void eachLetter() {
        for (char letter = 0; letter < 256; letter++) {
            boolean figure = letter >= '0' && letter <= '9';
            if (letter == ' ') {
                good("t1; ", 1);
            } else {
                fault(letter + "", 1, letter == 't' ? 1 : 0);
                boolean word = "fkwmbg".indexOf(letter) >= 0;
                fault("t1;" + letter, letter == 't' ? 3 : 1, word ? 4 : 3);
            }
            fault("t1;b" + letter, 1, figure || letter == ' ' ? 5 : 4);
            if (letter == ';') {
                good("t1;b5;", 1);
            } else {
                fault("t1;b5" + letter, 1, figure || letter == ' ' ? 6 : 5);
            }
        }
    }

    private static void outOfBounds() {
        Doc.sentence("2 a NUMBER of four figures or more, or out of its bounds;");
        fault("t0001;", 2, 1);
        fault("t2;f0000 1 0;", 2, 4);
        fault("t2;f0 0001 0;", 2, 6);
        fault("t2;f0 1 0000;", 2, 8);
        fault("t2;f0 1 0;k0000 1;", 2, 11);
        fault("t2;f0 1 0;k0 0001;", 2, 13);
        fault("t2;w0000 1;", 2, 4);
        fault("t2;w0 0001;", 2, 6);
        fault("t2;m0000;", 2, 4);
        fault("t2;b0000;", 2, 4);
        fault("t2;g0001;", 2, 4);
        fault("t2;g 0001;", 2, 5);
        fault("t2;g00001;", 2, 4);
        good("t002;f000 001 000;k000 001;w000 001;m000;b000;g001;", 2);
        fault("t 8", 2, 2);
        fault("t1;f0   10 0;", 2, 8);
        fault("t1;g 100;", 2, 5);
    }

    private static void thereIsNot() {
        Doc.sentence("a PERSON that there is not, a FACT that was not told yet, a SET with bits of such (at its first).");
        fault("t3;f3 1 0;", 2, 4);
        fault("t3;w3 0;", 2, 4);
        fault("t3;w0 3;", 2, 6);
        fault("t3;m3;", 2, 4);
        fault("t3;m100;", 2, 4);
        fault("t3;f0 1 0;k1 0;", 2, 11);
        fault("t3;f0 1 0;k 10 0;", 2, 12);
        fault("t3;f0 1 0;k0 8;", 2, 13);
        fault("t3;f0 1 0;k0 15;", 2, 13);
        fault("t3;f0 1 0;k0  64;", 2, 14);
        good("t3;f2 1 0;w2 0;w1 2;m2;k0 7;", 3);
    }

    private static void tooMany() {
        Doc.sentence("3 't', 'g' again, a ninth 'f', a 13th 'w', a fifth 'b' (at it).");
        fault("t1;  t", 3, 5);
        fault("t1;g1;  g", 3, 8);
        fault("t1;" + EIGHT_FACTS + " f", 3, 60);
        fault("t7;" + TWELVE_FRIENDSHIPS + " w", 3, 64);
        fault("t1;b0;b0;b0;b0; b", 3, 16);
        // seven, eleven and three of them leave room for one more
        good("t1;" + "f0 1 0;".repeat(7) + "f0 1 0;", 1);
        good("t7;" + TWELVE_FRIENDSHIPS.substring(0, 55) + "w5 6;", 7);
        good("t1;b0;b0;b0;b0;", 1);
    }

    private static void again() {
        Doc.sentence("4 'k' of a FACT again (at the F); 'w': A like B, two again (at the B); 'm' of a PERSON again (at it).");
        fault("t1;f0 1 0;k0 0;k  0 0;", 4, 18);
        fault("t1;" + EIGHT_FACTS + "k7 0;k7 0;", 4, 65);
        fault("t3;w 2  2;", 4, 8);
        fault("t3;w2 1;w 1  2;", 4, 13);
        fault("t3;m2;m  2;", 4, 9);
        good("t3;m2;m1;", 3);
    }

    private static void empty() {
        Doc.sentence("An empty text: no PEOPLE.");
        Subject x = new Subject();
        x.due("land", 0);
        x.due("fault", Subject.NONE);
        x.due("told 0", 0);
        x.feedAll("t7;f0 1 0;w0 1;m0;b1;g1;");
        x.due("land", 7);
        x.due("land", 0);
        x.due("fault", Subject.NONE);
        x.dueRow("told", 0, 0, 0, 0, 0, 0, 0, 0, 0, 0);
        // blanks tell nothing, either
        good(" ", 0);
        good(blanks(250), 0);
    }
}
