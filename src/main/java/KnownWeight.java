import java.util.Arrays;

/** People who weigh what others know of them. The document's promises are told in DOC.md; this is their face. */
public final class KnownWeight {
    public static final int NONE = -1, UNKNOWN = -1000000001, OUTSIDE = -1000000002, NOT = -1000000003, FULL = -1000000004;

    private static final int BILLION = 1000000000;
    private static final int MOST_LETTERS = 250;
    private static final int MOST_PEOPLE = 7;
    private static final int MOST_FACTS = 8;
    private static final int MOST_GRAMS = 9;
    private static final int MOST_FRIENDSHIPS = 12;
    private static final int MOST_BRIDGES = 4;
    private static final int MOST_SCALES = 15;
    private static final int MOST_IMAGES = 2;
    private static final int HOURS_AT_ONCE = 99;
    private static final int LAST_HOUR = 90000;
    private static final int FARTHEST_WEIGHT = 999;
    /** What all facts weigh together in one head. */
    private static final int MOST_GRAMS_A_HEAD = MOST_FACTS * MOST_GRAMS;
    /** The widest that the weights of one person can lie apart. */
    private static final int WIDEST = MOST_GRAMS_A_HEAD * (MOST_PEOPLE - 1);

    private final LandText text = new LandText();
    private Land here = new Land();
    private Land draft = new Land();
    private final Heads now = new Heads();
    private final Heads tried = new Heads();
    private final Heads[] images = {new Heads(), new Heads()};
    /** The images that were kept, a set. */
    private int kept;
    private final Scales scales = new Scales();
    private final Ferry ferry = new Ferry();
    private final Ways ways = new Ways();
    private final Chances chances = new Chances();
    private final Pact pact = new Pact();

    public KnownWeight() {
    }

    // ---- the land

    public int feed(int letter) {
        if (letter < 0 || letter > 255) {
            return OUTSIDE;
        }
        return text.add(letter);
    }

    public int land() {
        int kind = text.readInto(draft);
        text.length = 0;
        if (kind != 0) {
            return -10 - kind;
        }
        Land old = here;
        here = draft;
        draft = old;
        now.begin(here);
        scales.count = 0;
        kept = 0;
        return here.people;
    }

    public int fault() {
        return text.faultPlace;
    }

    public int told(int what) {
        switch (what) {
            case 0: return here.people;
            case 1: return here.facts;
            case 2: return here.friendships;
            case 3: return here.bridges;
            case 4: return here.memory;
            case 5: return text.length;
            case 6: return now.hours;
            case 7: return here.quiet;
            case 8: return now.allHeads(here);
            case 9: return scales.count;
            default: return OUTSIDE;
        }
    }

    public int fact(int f, int what) {
        if (!here.hasFact(f)) {
            return UNKNOWN;
        }
        switch (what) {
            case 0: return here.owner[f];
            case 1: return here.grams[f];
            case 2: return here.isLie(f) ? 1 : 0;
            case 3: return now.knowers[f];
            case 4: return now.headsOf(here, f);
            default: return OUTSIDE;
        }
    }

    public int person(int p, int what) {
        if (!here.hasPerson(p)) {
            return UNKNOWN;
        }
        switch (what) {
            case 0: return here.friends[p];
            case 1: return here.factsOf[p];
            case 2: return now.factsIn(p);
            case 3: return here.isQuiet(p) ? 1 : 0;
            default: return OUTSIDE;
        }
    }

    public int since(int p, int f) {
        if (!here.hasPerson(p) || !here.hasFact(f)) {
            return UNKNOWN;
        }
        return now.knows(p, f) ? now.heardAt(p, f) : NONE;
    }

    public int weight(int p) {
        return here.hasPerson(p) ? now.load(here, p) : UNKNOWN;
    }

    public int bridge(int b) {
        return here.hasBridge(b) ? here.bears[b] : UNKNOWN;
    }

    // ---- what is done

    public int tell(int p, int f) {
        if (!here.hasPerson(p) || !here.hasFact(f)) {
            return UNKNOWN;
        }
        if (now.knows(p, f)) {
            return NOT;
        }
        now.learn(p, f);
        return now.headsOf(here, f);
    }

    public int forget(int p, int f) {
        if (!here.hasPerson(p) || !here.hasFact(f)) {
            return UNKNOWN;
        }
        if (!now.knows(p, f)) {
            return NOT;
        }
        now.lose(p, f);
        return now.headsOf(here, f);
    }

    public int hour(int n) {
        int refusal = refusalOfHours(n);
        if (refusal != 0) {
            return refusal;
        }
        for (int k = 0; k < n; k++) {
            now.passHour(here);
        }
        return now.hours;
    }

    public int drift(int n) {
        int refusal = refusalOfHours(n);
        if (refusal != 0) {
            return refusal;
        }
        for (int k = 0; k < n; k++) {
            now.changeByDraws(here);
            now.passHour(here);
        }
        return now.hours;
    }

    private int refusalOfHours(int n) {
        if (n < 1 || n > HOURS_AT_ONCE) {
            return OUTSIDE;
        }
        if (here.people == 0) {
            return NOT;
        }
        return now.hours > LAST_HOUR ? FULL : 0;
    }

    // ---- weights

    public int heavy(int p, int n) {
        if (!here.hasPerson(p)) {
            return UNKNOWN;
        }
        if (n < 0 || n > HOURS_AT_ONCE) {
            return OUTSIDE;
        }
        tried.copyFrom(now);
        for (int k = 0; k < n; k++) {
            tried.passHour(here);
        }
        return tried.load(here, p);
    }

    public int when(int p, int b) {
        if (!here.hasPerson(p) || !here.hasBridge(b)) {
            return UNKNOWN;
        }
        tried.copyFrom(now);
        for (int n = 0; n <= HOURS_AT_ONCE; n++) {
            if (tried.load(here, p) <= here.bears[b]) {
                return n;
            }
            tried.passHour(here);
        }
        return NONE;
    }

    public int least(int set, int b, int f) {
        if (!here.hasPeople(set) || !here.hasBridge(b) || !here.hasFactOrNone(f)) {
            return UNKNOWN;
        }
        int over = now.loadOfAll(here, set) - here.bears[b];
        int times = 0;
        int timesOfFact = 0;
        for (int grams = MOST_GRAMS; grams > 0; grams--) {
            for (int g = 0; g < here.facts; g++) {
                if (here.grams[g] == grams && !here.isLie(g) && (set >> here.owner[g] & 1) != 0) {
                    int often = timesToForget(over, grams, now.headsOf(here, g));
                    over -= often * grams;
                    times += often;
                    timesOfFact += g == f ? often : 0;
                }
            }
        }
        if (over > 0) {
            return NONE;
        }
        return f == NONE ? times : timesOfFact;
    }

    private static int timesToForget(int over, int grams, int heads) {
        int often = 0;
        while (often < heads && over - often * grams > 0) {
            often++;
        }
        return often;
    }

    public int trips(int set, int b, int i) {
        if (!here.hasPeople(set) || !here.hasBridge(b)) {
            return UNKNOWN;
        }
        ferry.plan(here, now, set, here.bears[b]);
        return i == NONE ? ferry.fewest[set] : ferry.group(set, i);
    }

    // ---- what weights tell

    public int counted(int p, int w, int f, int what) {
        if (!here.hasPerson(p) || !here.hasFactOrNone(f)) {
            return UNKNOWN;
        }
        if (!canWeigh(w) || what < 0 || what > 1) {
            return OUTSIDE;
        }
        if (f == NONE) {
            ways.spread(here, here.factsOf[p]);
            return ways.countAt(w);
        }
        if (here.owner[f] != p) {
            return NONE;
        }
        ways.spread(here, here.factsOf[p] & ~(1 << f));
        return what == 0 ? ways.fewestHeads(here, f, w) : ways.mostHeads(here, f, w);
    }

    public int lies(int p, int w, int what) {
        if (!here.hasPerson(p)) {
            return UNKNOWN;
        }
        if (!canWeigh(w) || what < 0 || what > 2) {
            return OUTSIDE;
        }
        int his = here.factsOf[p];
        int allTrue = now.gramsOf(here, his);
        int count = 0;
        int first = NONE;
        int sure = his;
        for (int set = 0; set <= his; set++) {
            if ((set & ~his) == 0 && allTrue - 2 * now.gramsOf(here, set) == w) {
                first = count == 0 ? set : first;
                sure &= set;
                count++;
            }
        }
        if (what == 0) {
            return count;
        }
        if (what == 1) {
            return first;
        }
        return count == 0 ? 0 : sure;
    }

    private static boolean canWeigh(int w) {
        return w >= -FARTHEST_WEIGHT && w <= FARTHEST_WEIGHT;
    }

    // ---- friends

    public int apart(int f, int p, int what) {
        if (!here.hasFact(f) || !here.hasPerson(p)) {
            return UNKNOWN;
        }
        if (what < 0 || what > 1) {
            return OUTSIDE;
        }
        if (now.knows(p, f)) {
            return NOT;
        }
        int broken = fewestToBreak(now.knowers[f], p);
        return what == 0 ? Integer.bitCount(broken) : broken;
    }

    /** Whatever is broken, some people are left to be reached: so it is enough to look at each such side. */
    private int fewestToBreak(int sources, int p) {
        int best = (1 << here.friendships) - 1;
        for (int side = 0; side < 1 << here.people; side++) {
            if ((sources & ~side) == 0 && (side >> p & 1) == 0) {
                int broken = here.waysOut(side);
                int more = Integer.bitCount(broken) - Integer.bitCount(best);
                if (more < 0 || more == 0 && broken < best) {
                    best = broken;
                }
            }
        }
        return best;
    }

    public int treaty(int a, int b, int what) {
        if (!here.hasPerson(a) || !here.hasPerson(b) || a == b) {
            return UNKNOWN;
        }
        if (what < 0 || what > 2) {
            return OUTSIDE;
        }
        int grams = pact.agree(here, factsToForget(a, b), factsToForget(b, a));
        switch (what) {
            case 1: return pact.leastOfOne[grams];
            case 2: return pact.leastOfOther[grams];
            default: return grams;
        }
    }

    private int factsToForget(int head, int of) {
        return here.factsOf[of] & now.factsIn(head) & ~here.lieFacts;
    }

    public int odds(int p, int b, int q) {
        if (!here.hasPerson(p) || !here.hasBridge(b)) {
            return UNKNOWN;
        }
        if (q < 0 || q > 100) {
            return OUTSIDE;
        }
        chances.spread(here, now, p, q);
        return chances.upTo(here.bears[b]);
    }

    // ---- scales, images

    public int write(int p, int w) {
        if (!here.hasPerson(p)) {
            return UNKNOWN;
        }
        if (!canWeigh(w)) {
            return OUTSIDE;
        }
        return scales.add(p, w);
    }

    public int tear() {
        int had = scales.count;
        scales.count = 0;
        return had;
    }

    public int judge() {
        return scales.firstWrong(here, now);
    }

    public int seed(int v) {
        if (v < 0) {
            return OUTSIDE;
        }
        int old = now.drawn;
        now.drawn = v;
        return old;
    }

    public int keep(int i) {
        if (i < 0 || i >= MOST_IMAGES) {
            return UNKNOWN;
        }
        images[i].copyFrom(now);
        kept |= 1 << i;
        return 1;
    }

    public int goBack(int i) {
        if (i < 0 || i >= MOST_IMAGES) {
            return UNKNOWN;
        }
        if ((kept >> i & 1) == 0) {
            return NOT;
        }
        now.copyFrom(images[i]);
        return 1;
    }

    /** What a text told: none of it changes until the next land. */
    private static final class Land {
        int people;
        int facts;
        int friendships;
        int bridges;
        /** Hours after which a head forgets; 0: never. */
        int memory;
        int quiet;
        int lieFacts;
        /** The facts whose knowers were told, by nobody being told, too. */
        int factsWithKnowers;
        final int[] owner = new int[MOST_FACTS];
        final int[] grams = new int[MOST_FACTS];
        final int[] firstKnowers = new int[MOST_FACTS];
        final int[] factsOf = new int[MOST_PEOPLE];
        final int[] friends = new int[MOST_PEOPLE];
        final int[] oneFriend = new int[MOST_FRIENDSHIPS];
        final int[] otherFriend = new int[MOST_FRIENDSHIPS];
        final int[] bears = new int[MOST_BRIDGES];

        void clear() {
            people = 0;
            facts = 0;
            friendships = 0;
            bridges = 0;
            memory = 0;
            quiet = 0;
            lieFacts = 0;
            factsWithKnowers = 0;
            Arrays.fill(firstKnowers, 0);
            Arrays.fill(factsOf, 0);
            Arrays.fill(friends, 0);
        }

        boolean hasPerson(int p) {
            return p >= 0 && p < people;
        }

        boolean hasPeople(int set) {
            return (set & ~everybody()) == 0;
        }

        boolean hasFact(int f) {
            return f >= 0 && f < facts;
        }

        boolean hasFactOrNone(int f) {
            return f == NONE || hasFact(f);
        }

        boolean hasBridge(int b) {
            return b >= 0 && b < bridges;
        }

        int everybody() {
            return (1 << people) - 1;
        }

        boolean isLie(int f) {
            return (lieFacts >> f & 1) != 0;
        }

        boolean isQuiet(int p) {
            return (quiet >> p & 1) != 0;
        }

        /** What one head more makes of the weight of the one that the fact is of. */
        int pull(int f) {
            return isLie(f) ? -grams[f] : grams[f];
        }

        /** Only behind the tests that there is room and such a person. */
        void addFact(int p, int weighs, int lie) {
            owner[facts] = p;
            grams[facts] = weighs;
            factsOf[p] |= 1 << facts;
            lieFacts |= lie << facts;
            facts++;
        }

        /** Only behind the tests that there is room and such people. */
        void addFriendship(int a, int b) {
            oneFriend[friendships] = a;
            otherFriend[friendships] = b;
            friends[a] |= 1 << b;
            friends[b] |= 1 << a;
            friendships++;
        }

        /** The friendships by which somebody of a side tells somebody outside it. */
        int waysOut(int side) {
            int tellers = side & ~quiet;
            int out = 0;
            for (int k = 0; k < friendships; k++) {
                int a = oneFriend[k];
                int b = otherFriend[k];
                boolean tells = (tellers >> a & 1) != 0 && (side >> b & 1) == 0;
                boolean isTold = (tellers >> b & 1) != 0 && (side >> a & 1) == 0;
                if (tells || isTold) {
                    out |= 1 << k;
                }
            }
            return out;
        }
    }

    /** The letters that were fed, and how they are read; the first fault ends the reading. */
    private static final class LandText {
        private static final int CANNOT_STAND = 1;
        private static final int OUT_OF_BOUNDS = 2;
        private static final int TOO_MANY = 3;
        private static final int AGAIN = 4;

        final int[] letters = new int[MOST_LETTERS];
        int length;
        int faultPlace = NONE;
        private int faultKind;
        private int place;
        private int numberPlace;

        int add(int letter) {
            if (length >= MOST_LETTERS) {
                return FULL;
            }
            letters[length] = letter;
            length++;
            return length;
        }

        /** Answers the kind of the first fault; 0: none. */
        int readInto(Land land) {
            land.clear();
            place = 0;
            faultKind = 0;
            faultPlace = NONE;
            skipBlanks();
            for (int k = 0; k < MOST_LETTERS && place < length && faultKind == 0; k++) {
                readClause(land);
                skipBlanks();
            }
            return faultKind;
        }

        private void blame(int kind, int where) {
            if (faultKind == 0) {
                faultKind = kind;
                faultPlace = where;
            }
        }

        private int letterHere() {
            return place >= 0 && place < length ? letters[place] : NONE;
        }

        private static boolean isFigure(int letter) {
            return letter >= '0' && letter <= '9';
        }

        private void skipBlanks() {
            while (place < length && letterHere() == ' ') {
                place++;
            }
        }

        private void readClause(Land land) {
            int word = letterHere();
            int kind = faultOfWord(land, word);
            if (kind != 0) {
                blame(kind, place);
                return;
            }
            place++;
            switch (word) {
                case 't': readPeople(land); break;
                case 'f': readFact(land); break;
                case 'k': readKnowers(land); break;
                case 'w': readFriendship(land); break;
                case 'm': readQuiet(land); break;
                case 'b': readBridge(land); break;
                default: readMemory(land); break;
            }
            readEnd();
        }

        private int faultOfWord(Land land, int word) {
            if (land.people == 0) {
                return word == 't' ? 0 : CANNOT_STAND;
            }
            switch (word) {
                case 't': return TOO_MANY;
                case 'f': return land.facts < MOST_FACTS ? 0 : TOO_MANY;
                case 'w': return land.friendships < MOST_FRIENDSHIPS ? 0 : TOO_MANY;
                case 'b': return land.bridges < MOST_BRIDGES ? 0 : TOO_MANY;
                case 'g': return land.memory == 0 ? 0 : TOO_MANY;
                case 'k': return 0;
                case 'm': return 0;
                default: return CANNOT_STAND;
            }
        }

        private void readEnd() {
            skipBlanks();
            if (letterHere() != ';') {
                blame(CANNOT_STAND, place);
            }
            place++;
        }

        /** What is read behind a fault is read in vain: the first fault stays. */
        private int readNumber(int low, int high) {
            skipBlanks();
            numberPlace = place;
            if (!isFigure(letterHere())) {
                blame(CANNOT_STAND, place);
                return NONE;
            }
            int value = 0;
            while (place < length && isFigure(letterHere())) {
                // from the fourth figure on it is a fault anyway, and must not run over
                value = place - numberPlace < 3 ? value * 10 + letterHere() - '0' : value;
                place++;
            }
            if (place - numberPlace > 3 || value < low || value > high) {
                blame(OUT_OF_BOUNDS, numberPlace);
            }
            return value;
        }

        private int readPerson(Land land) {
            return readNumber(0, land.people - 1);
        }

        private void readPeople(Land land) {
            int n = readNumber(1, MOST_PEOPLE);
            if (faultKind == 0) {
                land.people = n;
            }
        }

        private void readFact(Land land) {
            int p = readPerson(land);
            int grams = readNumber(1, MOST_GRAMS);
            int lie = readNumber(0, 1);
            if (faultKind == 0) {
                land.addFact(p, grams, lie);
            }
        }

        private void readKnowers(Land land) {
            int f = readNumber(0, land.facts - 1);
            if (faultKind == 0 && (land.factsWithKnowers >> f & 1) != 0) {
                blame(AGAIN, numberPlace);
            }
            int set = readNumber(0, land.everybody());
            if (faultKind == 0) {
                land.factsWithKnowers |= 1 << f;
                land.firstKnowers[f] = set;
            }
        }

        private void readFriendship(Land land) {
            int a = readPerson(land);
            int b = readPerson(land);
            if (faultKind == 0 && (a == b || (land.friends[a] >> b & 1) != 0)) {
                blame(AGAIN, numberPlace);
            }
            if (faultKind == 0) {
                land.addFriendship(a, b);
            }
        }

        private void readQuiet(Land land) {
            int p = readPerson(land);
            if (faultKind == 0 && land.isQuiet(p)) {
                blame(AGAIN, numberPlace);
            }
            if (faultKind == 0) {
                land.quiet |= 1 << p;
            }
        }

        private void readBridge(Land land) {
            int bears = readNumber(0, FARTHEST_WEIGHT);
            if (faultKind == 0) {
                land.bears[land.bridges] = bears;
                land.bridges++;
            }
        }

        private void readMemory(Land land) {
            int hours = readNumber(1, HOURS_AT_ONCE);
            if (faultKind == 0) {
                land.memory = hours;
            }
        }
    }

    /** Who has what since when, the hours and the seed: all that an image keeps. */
    private static final class Heads {
        int hours;
        int drawn;
        /** Of each fact the people who have it. */
        final int[] knowers = new int[MOST_FACTS];
        private final int[] hearers = new int[MOST_FACTS];
        private final int[] heard = new int[MOST_PEOPLE * MOST_FACTS];

        void begin(Land land) {
            hours = 0;
            Arrays.fill(knowers, 0);
            Arrays.fill(heard, 0);
            for (int f = 0; f < land.facts; f++) {
                knowers[f] = land.firstKnowers[f];
            }
        }

        void copyFrom(Heads other) {
            hours = other.hours;
            drawn = other.drawn;
            System.arraycopy(other.knowers, 0, knowers, 0, MOST_FACTS);
            System.arraycopy(other.heard, 0, heard, 0, MOST_PEOPLE * MOST_FACTS);
        }

        boolean knows(int p, int f) {
            return (knowers[f] >> p & 1) != 0;
        }

        int heardAt(int p, int f) {
            return heard[p * MOST_FACTS + f];
        }

        void learn(int p, int f) {
            knowers[f] |= 1 << p;
            heard[p * MOST_FACTS + f] = hours;
        }

        void lose(int p, int f) {
            knowers[f] &= ~(1 << p);
        }

        int factsIn(int p) {
            int set = 0;
            for (int f = 0; f < MOST_FACTS; f++) {
                set |= (knowers[f] >> p & 1) << f;
            }
            return set;
        }

        int headsOf(Land land, int f) {
            return Integer.bitCount(knowers[f] & ~(1 << land.owner[f]));
        }

        int allHeads(Land land) {
            int sum = 0;
            for (int f = 0; f < land.facts; f++) {
                sum += headsOf(land, f);
            }
            return sum;
        }

        /** What a set of facts would weigh if none were a lie. */
        int gramsOf(Land land, int set) {
            int sum = 0;
            for (int f = 0; f < land.facts; f++) {
                if ((set >> f & 1) != 0) {
                    sum += land.grams[f] * headsOf(land, f);
                }
            }
            return sum;
        }

        int load(Land land, int p) {
            int his = land.factsOf[p];
            return gramsOf(land, his & ~land.lieFacts) - gramsOf(land, his & land.lieFacts);
        }

        int loadOfAll(Land land, int set) {
            int sum = 0;
            for (int p = 0; p < land.people; p++) {
                if ((set >> p & 1) != 0) {
                    sum += load(land, p);
                }
            }
            return sum;
        }

        void passHour(Land land) {
            hours++;
            forgetOld(land);
            tellOn(land);
        }

        private void forgetOld(Land land) {
            if (land.memory == 0) {
                return;
            }
            for (int f = 0; f < land.facts; f++) {
                for (int p = 0; p < land.people; p++) {
                    if (knows(p, f) && hours - heardAt(p, f) >= land.memory) {
                        lose(p, f);
                    }
                }
            }
        }

        /** Gathers first and learns then, so that nothing told in an hour is told on in it. */
        private void tellOn(Land land) {
            Arrays.fill(hearers, 0);
            for (int p = 0; p < land.people; p++) {
                if (!land.isQuiet(p)) {
                    chat(land, p);
                }
            }
            for (int f = 0; f < land.facts; f++) {
                for (int p = 0; hearers[f] != 0 && p < land.people; p++) {
                    if ((hearers[f] >> p & 1) != 0) {
                        learn(p, f);
                    }
                }
            }
        }

        private void chat(Land land, int p) {
            for (int f = 0; f < land.facts; f++) {
                int without = knows(p, f) ? land.friends[p] & ~knowers[f] : 0;
                if (without != 0) {
                    hearers[f] |= without & -without;
                    return;
                }
            }
        }

        void changeByDraws(Land land) {
            int p = drawOf(land.people);
            if (land.facts == 0) {
                return;
            }
            int f = drawOf(land.facts);
            if (knows(p, f)) {
                lose(p, f);
            } else {
                learn(p, f);
            }
        }

        private int drawOf(int n) {
            drawn = (int) ((drawn * 1103515245L + 12345L) & 0x7fffffffL);
            return n > 0 ? drawn / 65536 % n : 0;
        }
    }

    /** Weights that were told of people. */
    private static final class Scales {
        int count;
        private final int[] whom = new int[MOST_SCALES];
        private final int[] grams = new int[MOST_SCALES];

        int add(int p, int w) {
            if (count >= MOST_SCALES) {
                return FULL;
            }
            whom[count] = p;
            grams[count] = w;
            count++;
            return count;
        }

        int firstWrong(Land land, Heads heads) {
            for (int k = 0; k < count; k++) {
                if (heads.load(land, whom[k]) != grams[k]) {
                    return k;
                }
            }
            return NONE;
        }
    }

    /** The groups of a set that a bridge bears, by what is fewest for each part of the set. */
    private static final class Ferry {
        /** Of each part the fewest groups; NONE: no way. */
        final int[] fewest = new int[1 << MOST_PEOPLE];
        private final int[] loads = new int[1 << MOST_PEOPLE];
        private int bears;

        void plan(Land land, Heads heads, int set, int bridgeBears) {
            bears = bridgeBears;
            for (int p = 0; p < land.people; p++) {
                loads[1 << p] = heads.load(land, p);
            }
            loads[0] = 0;
            fewest[0] = 0;
            for (int part = 1; part <= set; part++) {
                if ((part & ~set) == 0) {
                    loads[part] = loads[part & (part - 1)] + loads[part & -part];
                    fewest[part] = fewestOf(part);
                }
            }
        }

        private int fewestOf(int part) {
            int best = NONE;
            for (int group = 1; group <= part; group++) {
                if ((group & ~part) == 0 && loads[group] <= bears) {
                    int others = fewest[part ^ group];
                    if (others != NONE && (best == NONE || others + 1 < best)) {
                        best = others + 1;
                    }
                }
            }
            return best;
        }

        int group(int set, int i) {
            int left = set;
            for (int k = 0; k <= i && k < fewest[set]; k++) {
                int group = firstGroup(left);
                if (k == i) {
                    return group;
                }
                left &= ~group;
            }
            return NONE;
        }

        private int firstGroup(int left) {
            for (int group = 1; group <= left; group++) {
                boolean goes = (group & ~left) == 0 && loads[group] <= bears;
                if (goes && fewest[left ^ group] == fewest[left] - 1) {
                    return group;
                }
            }
            return NONE;
        }
    }

    /**
     * In how many ways facts come to a weight. The heads of a lie are counted from the most down,
     * so that each fact only adds to what all lies weigh at their most.
     */
    private static final class Ways {
        private final int[] row = new int[WIDEST + 1];
        private int lowest;
        private int top;

        void spread(Land land, int factSet) {
            Arrays.fill(row, 0);
            row[0] = 1;
            lowest = 0;
            top = 0;
            int most = land.people - 1;
            for (int f = 0; f < land.facts; f++) {
                if ((factSet >> f & 1) != 0) {
                    lowest -= land.isLie(f) ? land.grams[f] * most : 0;
                    addFact(land.grams[f], most);
                }
            }
        }

        /** From the top down, as each place needs what lower ones were before. */
        private void addFact(int grams, int most) {
            top = Math.min(WIDEST, top + grams * most);
            for (int place = top; place >= 0; place--) {
                int sum = 0;
                for (int heads = 0; heads <= most && heads * grams <= place; heads++) {
                    sum += row[place - heads * grams];
                }
                row[place] = sum;
            }
        }

        int countAt(int weight) {
            int place = weight - lowest;
            return place >= 0 && place <= top ? row[place] : 0;
        }

        int fewestHeads(Land land, int f, int weight) {
            for (int heads = 0; heads < land.people; heads++) {
                if (countAt(weight - heads * land.pull(f)) > 0) {
                    return heads;
                }
            }
            return NONE;
        }

        int mostHeads(Land land, int f, int weight) {
            for (int heads = land.people - 1; heads >= 0; heads--) {
                if (countAt(weight - heads * land.pull(f)) > 0) {
                    return heads;
                }
            }
            return NONE;
        }
    }

    /** How much of a billion is at each weight of a person while his heads forget by chance. */
    private static final class Chances {
        private final int[] row = new int[WIDEST + 1];
        private int lowest;
        private int from;
        private int to;

        void spread(Land land, Heads heads, int p, int q) {
            int his = land.factsOf[p];
            lowest = -heads.gramsOf(land, his & land.lieFacts);
            from = Math.min(WIDEST, heads.gramsOf(land, his & ~land.lieFacts));
            to = from;
            Arrays.fill(row, 0);
            row[from] = BILLION;
            for (int f = 0; f < land.facts; f++) {
                int count = land.owner[f] == p ? heads.headsOf(land, f) : 0;
                for (int k = 0; k < count; k++) {
                    headForgets(-land.pull(f), q);
                }
            }
        }

        /** Starts at the end that the step goes to, so that nothing is moved twice. */
        private void headForgets(int step, int q) {
            if (step < 0) {
                for (int place = from; place <= to; place++) {
                    move(place, place + step, q);
                }
                from = Math.max(0, from + step);
            } else {
                for (int place = to; place >= from; place--) {
                    move(place, place + step, q);
                }
                to = Math.min(WIDEST, to + step);
            }
        }

        private void move(int place, int goal, int q) {
            if (row[place] != 0 && goal >= 0 && goal <= WIDEST) {
                int moved = (int) ((long) row[place] * q / 100);
                row[place] -= moved;
                row[goal] += moved;
            }
        }

        int upTo(int bears) {
            int sum = 0;
            for (int place = from; place <= to && lowest + place <= bears; place++) {
                sum += row[place];
            }
            return sum;
        }
    }

    /** Of two sets of facts the least parts that weigh the same a head. */
    private static final class Pact {
        /** By grams the least part that weighs so much; NONE: no part does. */
        final int[] leastOfOne = new int[MOST_GRAMS_A_HEAD + 1];
        final int[] leastOfOther = new int[MOST_GRAMS_A_HEAD + 1];

        /** Answers the most grams; the empty parts always agree. */
        int agree(Land land, int one, int other) {
            findParts(land, one, leastOfOne);
            findParts(land, other, leastOfOther);
            for (int grams = MOST_GRAMS_A_HEAD; grams > 0; grams--) {
                if (leastOfOne[grams] != NONE && leastOfOther[grams] != NONE) {
                    return grams;
                }
            }
            return 0;
        }

        private static void findParts(Land land, int set, int[] least) {
            Arrays.fill(least, NONE);
            for (int part = 0; part <= set; part++) {
                if ((part & ~set) == 0) {
                    int grams = gramsAHead(land, part);
                    if (least[grams] == NONE) {
                        least[grams] = part;
                    }
                }
            }
        }

        private static int gramsAHead(Land land, int part) {
            int sum = 0;
            for (int f = 0; f < land.facts; f++) {
                sum += (part >> f & 1) * land.grams[f];
            }
            return Math.min(MOST_GRAMS_A_HEAD, sum);
        }
    }
}
