import java.util.ArrayList;
import java.util.Arrays;
import java.util.HashMap;
import java.util.List;
import java.util.Map;
import java.util.Random;
import java.util.TreeMap;

/** Many runs of calls on KnownWeight and on a slow model that tries everything out, with the same answers due. */
public final class AgainstModel {
    static final int UNKNOWN = -1000000001, OUTSIDE = -1000000002, NOT = -1000000003, FULL = -1000000004;
    static final int RUNS = 3000;

    public static void main(String[] args) {
        Map<String, Integer> seen = new TreeMap<>();
        int wrong = 0;
        for (int run = 0; run < RUNS && wrong < 5; run++) {
            wrong += tryRun(run, seen);
        }
        for (String kind : KINDS) {
            if (!seen.containsKey(kind)) {
                System.out.println("no run came to " + kind);
                wrong++;
            }
        }
        System.out.println(wrong == 0 ? "model and class agree in " + RUNS + " runs" : "they differ");
        if (wrong != 0) {
            System.exit(1);
        }
    }

    /** What the runs must have come to at least once, so that the agreement means something. */
    static final String[] KINDS = {
        "land fault 1", "land fault 2", "land fault 3", "land fault 4", "land none", "land good",
        "feed full", "trips none", "trips three", "counted none", "counted many", "lies many", "lies sure",
        "apart two", "apart not", "treaty some", "odds between", "judge wrong", "write full", "goBack not", "goBack good",
        "when later", "when none", "heavy below 0"};

    static int tryRun(int run, Map<String, Integer> seen) {
        Random random = new Random(run);
        KnownWeight real = new KnownWeight();
        Model model = new Model();
        List<String> calls = new ArrayList<>();
        int left = 512;
        while (left > 0) {
            String text = Texts.make(random);
            if (random.nextInt(40) == 0) {
                text = text + " ".repeat(255 - Math.min(250, text.length()));
            }
            for (int k = 0; k < text.length() && left > 0; k++, left--) {
                if (differs(run, calls, "feed", new int[] {text.charAt(k)}, real, model, seen)) {
                    return 1;
                }
            }
            if (left-- > 0 && differs(run, calls, "land", new int[0], real, model, seen)) {
                return 1;
            }
            int others = 20 + random.nextInt(300);
            for (int k = 0; k < others && left > 0; k++, left--) {
                String name = NAMES[random.nextInt(NAMES.length)];
                int[] a = arguments(name, random, model);
                if (differs(run, calls, name, a, real, model, seen)) {
                    return 1;
                }
            }
        }
        return 0;
    }

    static final String[] NAMES = {
        "fault", "told", "fact", "person", "since", "weight", "bridge", "tell", "tell", "tell", "forget", "forget", "hour",
        "drift", "heavy", "when", "least", "least", "trips", "trips", "trips", "counted", "counted", "counted", "lies", "lies",
        "apart", "apart", "apart", "treaty", "treaty", "odds", "odds", "write", "write", "tear", "judge", "seed", "keep",
        "goBack"};

    static int near(Random random, int from, int to) {
        if (random.nextInt(25) == 0) {
            int[] far = {from - 1, to + 1, Integer.MIN_VALUE, Integer.MAX_VALUE, from - 2, 1 << 20};
            return far[random.nextInt(far.length)];
        }
        return to < from ? from : from + random.nextInt(to - from + 1);
    }

    static int[] arguments(String name, Random random, Model m) {
        int people = m.people;
        int facts = m.facts.size();
        int p = near(random, 0, people - 1);
        int f = near(random, 0, facts - 1);
        int b = near(random, 0, m.bridges.size() - 1);
        int set = near(random, 0, (1 << people) - 1);
        int someFact = random.nextInt(3) == 0 ? -1 : f;
        int w = random.nextInt(3) == 0 ? near(random, -999, 999) : likelyWeight(random, m, p);
        switch (name) {
            case "told": return new int[] {near(random, 0, 9)};
            case "fact": return new int[] {f, near(random, 0, 4)};
            case "person": return new int[] {p, near(random, 0, 3)};
            case "since": case "tell": case "forget": return new int[] {p, f};
            case "weight": return new int[] {p};
            case "bridge": return new int[] {b};
            case "hour": case "drift": return new int[] {random.nextInt(3) == 0 ? near(random, 1, 99) : 1 + random.nextInt(3)};
            case "heavy": return new int[] {p, near(random, 0, 99)};
            case "when": return new int[] {p, b};
            case "least": return new int[] {set, b, someFact};
            case "trips": return new int[] {set, b, near(random, -1, 3)};
            case "counted": return new int[] {p, w, ownFact(random, m, p, someFact), near(random, 0, 1)};
            case "lies": return new int[] {p, w, near(random, 0, 2)};
            case "apart": return new int[] {f, p, near(random, 0, 1)};
            case "treaty": return new int[] {p, near(random, 0, people - 1), near(random, 0, 2)};
            case "odds": return new int[] {p, b, near(random, 0, 100)};
            case "write": return new int[] {p, w};
            case "seed": return new int[] {random.nextInt()};
            case "keep": case "goBack": return new int[] {near(random, 0, 1)};
            default: return new int[0];
        }
    }

    static int likelyWeight(Random random, Model m, int p) {
        int at = p >= 0 && p < m.people ? m.weight(p) : 0;
        return at + random.nextInt(7) - 3 - (random.nextInt(2) == 0 ? 0 : 2 * (random.nextInt(60) - 20));
    }

    static int ownFact(Random random, Model m, int p, int f) {
        List<Integer> own = new ArrayList<>();
        for (int k = 0; k < m.facts.size(); k++) {
            if (m.facts.get(k)[0] == p) {
                own.add(k);
            }
        }
        return f < 0 || own.isEmpty() || random.nextInt(4) == 0 ? f : own.get(random.nextInt(own.size()));
    }

    static boolean differs(int run, List<String> calls, String name, int[] a, KnownWeight real, Model model,
            Map<String, Integer> seen) {
        String call = name + Arrays.toString(a);
        int got = callReal(real, name, a);
        int due = model.call(name, a);
        calls.add(call);
        note(name, a, due, seen);
        if (got == due) {
            return false;
        }
        System.out.println("run " + run + ", call " + calls.size() + ": " + call + " answered " + got + ", due is " + due
            + " (text " + model.landText + ")");
        return true;
    }

    static void note(String name, int[] a, int due, Map<String, Integer> seen) {
        String kind = null;
        switch (name) {
            case "land": kind = due > 0 ? "land good" : due == 0 ? "land none" : "land fault " + (-10 - due); break;
            case "feed": kind = due == FULL ? "feed full" : null; break;
            case "trips": kind = a[2] == -1 && due == -1 ? "trips none" : a[2] == -1 && due == 3 ? "trips three" : null; break;
            case "counted": kind = a[2] >= 0 && due == -1 ? "counted none" : a[2] == -1 && due > 100 ? "counted many" : null; break;
            case "lies": kind = a[2] == 0 && due > 1 ? "lies many" : a[2] == 2 && due > 0 ? "lies sure" : null; break;
            case "apart": kind = due == NOT ? "apart not" : a[2] == 0 && due == 2 ? "apart two" : null; break;
            case "treaty": kind = a[2] == 0 && due > 0 ? "treaty some" : null; break;
            case "odds": kind = due > 0 && due < 1000000000 ? "odds between" : null; break;
            case "judge": kind = due >= 0 ? "judge wrong" : null; break;
            case "write": kind = due == FULL ? "write full" : null; break;
            case "goBack": kind = due == NOT ? "goBack not" : due == 1 ? "goBack good" : null; break;
            case "when": kind = due > 0 ? "when later" : due == -1 ? "when none" : null; break;
            case "heavy": kind = due < 0 && due > -1000 ? "heavy below 0" : null; break;
            default: break;
        }
        if (kind != null) {
            seen.merge(kind, 1, Integer::sum);
        }
    }

    static int callReal(KnownWeight x, String name, int[] a) {
        switch (name) {
            case "feed": return x.feed(a[0]);
            case "land": return x.land();
            case "fault": return x.fault();
            case "told": return x.told(a[0]);
            case "fact": return x.fact(a[0], a[1]);
            case "person": return x.person(a[0], a[1]);
            case "since": return x.since(a[0], a[1]);
            case "weight": return x.weight(a[0]);
            case "bridge": return x.bridge(a[0]);
            case "tell": return x.tell(a[0], a[1]);
            case "forget": return x.forget(a[0], a[1]);
            case "hour": return x.hour(a[0]);
            case "drift": return x.drift(a[0]);
            case "heavy": return x.heavy(a[0], a[1]);
            case "when": return x.when(a[0], a[1]);
            case "least": return x.least(a[0], a[1], a[2]);
            case "trips": return x.trips(a[0], a[1], a[2]);
            case "counted": return x.counted(a[0], a[1], a[2], a[3]);
            case "lies": return x.lies(a[0], a[1], a[2]);
            case "apart": return x.apart(a[0], a[1], a[2]);
            case "treaty": return x.treaty(a[0], a[1], a[2]);
            case "odds": return x.odds(a[0], a[1], a[2]);
            case "write": return x.write(a[0], a[1]);
            case "tear": return x.tear();
            case "judge": return x.judge();
            case "seed": return x.seed(a[0]);
            case "keep": return x.keep(a[0]);
            case "goBack": return x.goBack(a[0]);
            default: throw new IllegalStateException(name);
        }
    }

    /** Texts that are good at first and spoiled in one of four. */
    static final class Texts {
        static String make(Random random) {
            int people = random.nextInt(4) == 0 ? 1 + random.nextInt(7) : 4 + random.nextInt(4);
            StringBuilder text = new StringBuilder("t" + people + ";");
            if (random.nextInt(30) == 0) {
                return " ".repeat(random.nextInt(3));
            }
            int facts = random.nextInt(9);
            int owners = 1 + random.nextInt(people);
            for (int f = 0; f < facts; f++) {
                clause(random, text, "f", random.nextInt(owners), 1 + random.nextInt(9), random.nextInt(3) == 0 ? 1 : 0);
            }
            for (int f = 0; f < facts; f++) {
                if (random.nextInt(5) != 0) {
                    clause(random, text, "k", f, random.nextInt(1 << people));
                }
            }
            List<int[]> pairs = new ArrayList<>();
            for (int a = 0; a < people; a++) {
                for (int b = 0; b < a; b++) {
                    pairs.add(random.nextBoolean() ? new int[] {a, b} : new int[] {b, a});
                }
            }
            java.util.Collections.shuffle(pairs, random);
            int friendships = Math.min(random.nextInt(13), pairs.size());
            for (int k = 0; k < friendships; k++) {
                clause(random, text, "w", pairs.get(k)[0], pairs.get(k)[1]);
            }
            for (int p = 0; p < people; p++) {
                if (random.nextInt(5) == 0) {
                    clause(random, text, "m", p);
                }
            }
            int bridges = random.nextInt(5);
            for (int b = 0; b < bridges; b++) {
                clause(random, text, "b", random.nextInt(random.nextBoolean() ? 40 : 300));
            }
            if (random.nextBoolean()) {
                clause(random, text, "g", 1 + random.nextInt(random.nextInt(3) == 0 ? 99 : 9));
            }
            if (random.nextInt(4) == 0) {
                spoil(random, text);
            }
            return text.length() > 250 && random.nextInt(9) != 0 ? text.substring(0, text.lastIndexOf(";", 249) + 1)
                : text.toString();
        }

        static void clause(Random random, StringBuilder text, String word, int... numbers) {
            text.append(blanks(random)).append(word).append(blanks(random));
            for (int k = 0; k < numbers.length; k++) {
                String zeros = random.nextInt(30) == 0 && numbers[k] < 10 ? "00" : "";
                text.append(k == 0 ? "" : " ").append(blanks(random)).append(zeros).append(numbers[k]);
            }
            text.append(blanks(random)).append(";");
        }

        static String blanks(Random random) {
            return random.nextInt(25) == 0 ? " ".repeat(1 + random.nextInt(2)) : "";
        }

        static void spoil(Random random, StringBuilder text) {
            String letters = "tfkwmbg0123456789; ;x" + (char) 255 + (char) 0;
            int times = 1 + random.nextInt(2);
            for (int k = 0; k < times && text.length() > 0; k++) {
                int at = random.nextInt(text.length());
                char letter = letters.charAt(random.nextInt(letters.length()));
                int how = random.nextInt(5);
                if (how == 0) {
                    text.setLength(at);
                } else if (how == 1) {
                    text.deleteCharAt(at);
                } else if (how == 2) {
                    text.insert(at, letter);
                } else if (how == 3) {
                    text.setCharAt(at, letter);
                } else {
                    int end = Math.min(text.length(), at + 4 + random.nextInt(6));
                    text.append(text.substring(at, end));
                }
            }
        }
    }

    static final class Fault extends Exception {
        private static final long serialVersionUID = 1;
        final int kind;
        final int place;

        Fault(int kind, int place) {
            this.kind = kind;
            this.place = place;
        }
    }

    /** The document, word by word, with lists and maps and all ways tried. */
    static final class Model {
        String text = "";
        String landText = "";
        int lastFault = -1;
        int people;
        List<int[]> facts = new ArrayList<>();
        List<int[]> friendships = new ArrayList<>();
        List<Integer> bridges = new ArrayList<>();
        List<Integer> quiet = new ArrayList<>();
        int memory;
        Map<List<Integer>, Integer> has = new HashMap<>();
        int hours;
        long seed;
        List<int[]> scales = new ArrayList<>();
        Object[][] images = new Object[2][];

        int call(String name, int[] a) {
            int refusal = refusal(name, a);
            return refusal != 0 ? refusal : answer(name, a);
        }

        boolean noPerson(int p) {
            return p < 0 || p >= people;
        }

        boolean noFact(int f) {
            return f < 0 || f >= facts.size();
        }

        boolean noBridge(int b) {
            return b < 0 || b >= bridges.size();
        }

        boolean noSet(int set) {
            return set < 0 || set >= 1 << people;
        }

        static boolean out(int x, int from, int to) {
            return x < from || x > to;
        }

        int refusal(String name, int[] a) {
            boolean unknown = false;
            boolean outside = false;
            boolean not = false;
            boolean full = false;
            switch (name) {
                case "feed": outside = out(a[0], 0, 255); full = text.length() == 250; break;
                case "told": outside = out(a[0], 0, 9); break;
                case "fact": unknown = noFact(a[0]); outside = out(a[1], 0, 4); break;
                case "person": unknown = noPerson(a[0]); outside = out(a[1], 0, 3); break;
                case "since": unknown = noPerson(a[0]) || noFact(a[1]); break;
                case "weight": unknown = noPerson(a[0]); break;
                case "bridge": unknown = noBridge(a[0]); break;
                case "tell": unknown = noPerson(a[0]) || noFact(a[1]); not = has.containsKey(List.of(a[0], a[1])); break;
                case "forget": unknown = noPerson(a[0]) || noFact(a[1]); not = !has.containsKey(List.of(a[0], a[1])); break;
                case "hour": case "drift": outside = out(a[0], 1, 99); not = people == 0; full = hours > 90000; break;
                case "heavy": unknown = noPerson(a[0]); outside = out(a[1], 0, 99); break;
                case "when": unknown = noPerson(a[0]) || noBridge(a[1]); break;
                case "least": unknown = noSet(a[0]) || noBridge(a[1]) || a[2] != -1 && noFact(a[2]); break;
                case "trips": unknown = noSet(a[0]) || noBridge(a[1]); break;
                case "counted": unknown = noPerson(a[0]) || a[2] != -1 && noFact(a[2]);
                    outside = out(a[1], -999, 999) || out(a[3], 0, 1); break;
                case "lies": unknown = noPerson(a[0]); outside = out(a[1], -999, 999) || out(a[2], 0, 2); break;
                case "apart": unknown = noFact(a[0]) || noPerson(a[1]); outside = out(a[2], 0, 1);
                    not = has.containsKey(List.of(a[1], a[0])); break;
                case "treaty": unknown = noPerson(a[0]) || noPerson(a[1]) || a[0] == a[1]; outside = out(a[2], 0, 2); break;
                case "odds": unknown = noPerson(a[0]) || noBridge(a[1]); outside = out(a[2], 0, 100); break;
                case "write": unknown = noPerson(a[0]); outside = out(a[1], -999, 999); full = scales.size() == 15; break;
                case "seed": outside = a[0] < 0; break;
                case "keep": unknown = out(a[0], 0, 1); break;
                case "goBack": unknown = out(a[0], 0, 1); not = !unknown && images[a[0]] == null; break;
                default: break;
            }
            return unknown ? UNKNOWN : outside ? OUTSIDE : not ? NOT : full ? FULL : 0;
        }

        int answer(String name, int[] a) {
            switch (name) {
                case "feed": text += (char) a[0]; return text.length();
                case "land": return land();
                case "fault": return lastFault;
                case "told": return told(a[0]);
                case "fact": return a[1] < 3 ? facts.get(a[0])[a[1]] : a[1] == 3 ? knowers(a[0]) : heads(a[0]);
                case "person": return person(a[0], a[1]);
                case "since": return has.getOrDefault(List.of(a[0], a[1]), -1);
                case "weight": return weight(a[0]);
                case "bridge": return bridges.get(a[0]);
                case "tell": has.put(List.of(a[0], a[1]), hours); return heads(a[1]);
                case "forget": has.remove(List.of(a[0], a[1])); return heads(a[1]);
                case "hour": for (int k = 0; k < a[0]; k++) { hour(); } return hours;
                case "drift": for (int k = 0; k < a[0]; k++) { byDraws(); hour(); } return hours;
                case "heavy": return weights(a[0], a[1])[a[1]];
                case "when": return when(a[0], bridges.get(a[1]));
                case "least": return least(a[0], bridges.get(a[1]), a[2]);
                case "trips": return trips(a[0], bridges.get(a[1]), a[2]);
                case "counted": return counted(a[0], a[1], a[2], a[3]);
                case "lies": return lies(a[0], a[1], a[2]);
                case "apart": return apart(a[0], a[1], a[2]);
                case "treaty": return treaty(a[0], a[1], a[2]);
                case "odds": return odds(a[0], bridges.get(a[1]), a[2]);
                case "write": scales.add(a); return scales.size();
                case "tear": int had = scales.size(); scales.clear(); return had;
                case "judge": return judge();
                case "seed": int old = (int) seed; seed = a[0]; return old;
                case "keep": images[a[0]] = new Object[] {new HashMap<>(has), hours, seed}; return 1;
                case "goBack": goBack(images[a[0]]); return 1;
                default: throw new IllegalStateException(name);
            }
        }

        @SuppressWarnings("unchecked")
        void goBack(Object[] image) {
            has = new HashMap<>((Map<List<Integer>, Integer>) image[0]);
            hours = (Integer) image[1];
            seed = (Long) image[2];
        }

        int land() {
            Model next = new Model();
            next.text = text;
            text = "";
            try {
                next.read();
            } catch (Fault fault) {
                lastFault = fault.place;
                return -10 - fault.kind;
            }
            landText = next.text;
            lastFault = -1;
            people = next.people;
            facts = next.facts;
            friendships = next.friendships;
            bridges = next.bridges;
            quiet = next.quiet;
            memory = next.memory;
            has = next.has;
            hours = 0;
            scales.clear();
            images = new Object[2][];
            return people;
        }

        /** Cuts the text into words, signs and numbers, each with its place, and a last piece for the end. */
        static List<String[]> pieces(String text) {
            List<String[]> pieces = new ArrayList<>();
            java.util.regex.Matcher m = java.util.regex.Pattern.compile("[0-9]+|[^ ]", java.util.regex.Pattern.DOTALL).matcher(text);
            while (m.find()) {
                pieces.add(new String[] {m.group(), "" + m.start()});
            }
            pieces.add(new String[] {"end", "" + text.length()});
            return pieces;
        }

        void read() throws Fault {
            List<String[]> pieces = pieces(text);
            List<Integer> knowersTold = new ArrayList<>();
            boolean memoryTold = false;
            int at = 0;
            while (at < pieces.size() - 1) {
                String word = pieces.get(at)[0];
                int place = Integer.parseInt(pieces.get(at)[1]);
                boolean isWord = people == 0 ? word.equals("t") : word.length() == 1 && "tfkwmbg".contains(word);
                fail(!isWord, 1, place);
                fail(word.equals("t") && people > 0 || word.equals("g") && memoryTold || word.equals("f") && facts.size() == 8
                    || word.equals("w") && friendships.size() == 12 || word.equals("b") && bridges.size() == 4, 3, place);
                int count = "kw".contains(word) ? 2 : word.equals("f") ? 3 : 1;
                int[] n = new int[count];
                for (int k = 0; k < count; k++) {
                    String[] piece = pieces.get(Math.min(at + 1 + k, pieces.size() - 1));
                    int where = Integer.parseInt(piece[1]);
                    fail(!piece[0].matches("[0-9]+"), 1, where);
                    fail(piece[0].length() > 3, 2, where);
                    n[k] = Integer.parseInt(piece[0]);
                    int[] bounds = bounds(word, k);
                    fail(n[k] < bounds[0] || n[k] > bounds[1], 2, where);
                    fail(word.equals("k") && k == 0 && knowersTold.contains(n[0]), 4, where);
                    fail(word.equals("m") && quiet.contains(n[0]), 4, where);
                    fail(word.equals("w") && k == 1 && (n[0] == n[1] || areFriends(n[0], n[1])), 4, where);
                }
                String[] close = pieces.get(Math.min(at + 1 + count, pieces.size() - 1));
                fail(!close[0].equals(";"), 1, Integer.parseInt(close[1]));
                at += count + 2;
                switch (word) {
                    case "t": people = n[0]; break;
                    case "f": facts.add(n); break;
                    case "k": knowersTold.add(n[0]); know(n[0], n[1]); break;
                    case "w": friendships.add(n); break;
                    case "m": quiet.add(n[0]); break;
                    case "b": bridges.add(n[0]); break;
                    default: memory = n[0]; memoryTold = true; break;
                }
            }
        }

        void know(int f, int set) {
            for (int p = 0; p < people; p++) {
                if ((set & 1 << p) != 0) {
                    has.put(List.of(p, f), 0);
                }
            }
        }

        static void fail(boolean wrong, int kind, int place) throws Fault {
            if (wrong) {
                throw new Fault(kind, place);
            }
        }

        int[] bounds(String word, int k) {
            switch (word) {
                case "t": return new int[] {1, 7};
                case "f": return k == 0 ? new int[] {0, people - 1} : k == 1 ? new int[] {1, 9} : new int[] {0, 1};
                case "k": return k == 0 ? new int[] {0, facts.size() - 1} : new int[] {0, (1 << people) - 1};
                case "b": return new int[] {0, 999};
                case "g": return new int[] {1, 99};
                default: return new int[] {0, people - 1};
            }
        }

        boolean areFriends(int a, int b) {
            for (int[] pair : friendships) {
                if (pair[0] == a && pair[1] == b || pair[0] == b && pair[1] == a) {
                    return true;
                }
            }
            return false;
        }

        int told(int what) {
            int quietSet = 0;
            for (int p : quiet) {
                quietSet += 1 << p;
            }
            int all = 0;
            for (int f = 0; f < facts.size(); f++) {
                all += heads(f);
            }
            return new int[] {people, facts.size(), friendships.size(), bridges.size(), memory, text.length(), hours, quietSet,
                all, scales.size()}[what];
        }

        int knowers(int f) {
            int set = 0;
            for (int p = 0; p < people; p++) {
                set += has.containsKey(List.of(p, f)) ? 1 << p : 0;
            }
            return set;
        }

        int heads(int f) {
            int count = 0;
            for (int p = 0; p < people; p++) {
                count += p != facts.get(f)[0] && has.containsKey(List.of(p, f)) ? 1 : 0;
            }
            return count;
        }

        int person(int p, int what) {
            int set = 0;
            if (what == 0) {
                for (int q = 0; q < people; q++) {
                    set += areFriends(p, q) ? 1 << q : 0;
                }
            } else if (what == 3) {
                set = quiet.contains(p) ? 1 : 0;
            } else {
                for (int f = 0; f < facts.size(); f++) {
                    boolean in = what == 1 ? facts.get(f)[0] == p : has.containsKey(List.of(p, f));
                    set += in ? 1 << f : 0;
                }
            }
            return set;
        }

        int weight(int p) {
            int sum = 0;
            for (int f = 0; f < facts.size(); f++) {
                int[] fact = facts.get(f);
                sum += fact[0] == p ? (fact[2] == 1 ? -1 : 1) * fact[1] * heads(f) : 0;
            }
            return sum;
        }

        void hour() {
            hours++;
            if (memory > 0) {
                has.values().removeIf(at -> hours - at >= memory);
            }
            List<List<Integer>> news = new ArrayList<>();
            for (int p = 0; p < people; p++) {
                if (!quiet.contains(p)) {
                    List<Integer> one = whatIsTold(p);
                    if (one != null) {
                        news.add(one);
                    }
                }
            }
            for (List<Integer> one : news) {
                has.put(one, hours);
            }
        }

        List<Integer> whatIsTold(int p) {
            for (int f = 0; f < facts.size(); f++) {
                for (int q = 0; q < people; q++) {
                    if (has.containsKey(List.of(p, f)) && areFriends(p, q) && !has.containsKey(List.of(q, f))) {
                        return List.of(q, f);
                    }
                }
            }
            return null;
        }

        int draw(int n) {
            seed = (seed * 1103515245L + 12345L) % (1L << 31);
            return (int) (seed / 65536 % n);
        }

        void byDraws() {
            int p = draw(people);
            if (facts.isEmpty()) {
                return;
            }
            int f = draw(facts.size());
            if (has.remove(List.of(p, f)) == null) {
                has.put(List.of(p, f), hours);
            }
        }

        int[] weights(int p, int n) {
            Map<List<Integer>, Integer> before = new HashMap<>(has);
            int hoursBefore = hours;
            int[] weights = new int[n + 1];
            for (int k = 0; k <= n; k++) {
                weights[k] = weight(p);
                hour();
            }
            has = before;
            hours = hoursBefore;
            return weights;
        }

        int when(int p, int bears) {
            int[] weights = weights(p, 99);
            for (int k = 0; k < 100; k++) {
                if (weights[k] <= bears) {
                    return k;
                }
            }
            return -1;
        }

        int least(int set, int bears, int f) {
            int total = 0;
            List<int[]> units = new ArrayList<>();
            for (int p = 0; p < people; p++) {
                total += (set & 1 << p) != 0 ? weight(p) : 0;
            }
            for (int g = 0; g < facts.size(); g++) {
                int[] fact = facts.get(g);
                for (int k = 0; k < heads(g) && fact[2] == 0 && (set & 1 << fact[0]) != 0; k++) {
                    units.add(new int[] {fact[1], g});
                }
            }
            units.sort((x, y) -> x[0] != y[0] ? y[0] - x[0] : x[1] - y[1]);
            int times = 0;
            int often = 0;
            for (int[] unit : units) {
                if (total > bears) {
                    total -= unit[0];
                    times++;
                    often += unit[1] == f ? 1 : 0;
                }
            }
            return total > bears ? -1 : f == -1 ? times : often;
        }

        int together(int set) {
            int sum = 0;
            for (int p = 0; p < people; p++) {
                sum += (set & 1 << p) != 0 ? weight(p) : 0;
            }
            return sum;
        }

        /** The least row of groups, tried one group after the other with so many left. */
        int trips(int set, int bears, int i) {
            boolean[] goes = new boolean[1 << people];
            for (int group = 1; group < goes.length; group++) {
                goes[group] = together(group) <= bears;
            }
            for (int count = 0; count <= people; count++) {
                List<Integer> groups = new ArrayList<>();
                if (split(set, goes, count, groups)) {
                    return i == -1 ? count : i >= 0 && i < count ? groups.get(i) : -1;
                }
            }
            return -1;
        }

        boolean split(int set, boolean[] goes, int count, List<Integer> groups) {
            if (set == 0 || count == 0) {
                return set == 0 && count == 0;
            }
            for (int group = 1; group <= set; group++) {
                if ((group | set) == set && goes[group]) {
                    groups.add(group);
                    if (split(set - group, goes, count - 1, groups)) {
                        return true;
                    }
                    groups.remove(groups.size() - 1);
                }
            }
            return false;
        }

        int counted(int p, int w, int f, int what) {
            if (f != -1 && facts.get(f)[0] != p) {
                return -1;
            }
            Map<List<Integer>, Integer> ways = new HashMap<>();
            ways.put(List.of(0, -1), 1);
            for (int g = 0; g < facts.size(); g++) {
                int[] fact = facts.get(g);
                if (fact[0] == p) {
                    Map<List<Integer>, Integer> more = new HashMap<>();
                    for (Map.Entry<List<Integer>, Integer> way : ways.entrySet()) {
                        for (int h = 0; h < people; h++) {
                            int sum = way.getKey().get(0) + h * (fact[2] == 1 ? -fact[1] : fact[1]);
                            more.merge(List.of(sum, g == f ? h : way.getKey().get(1)), way.getValue(), Integer::sum);
                        }
                    }
                    ways = more;
                }
            }
            int count = 0;
            int fewest = -1;
            int most = -1;
            for (Map.Entry<List<Integer>, Integer> way : ways.entrySet()) {
                if (way.getKey().get(0) == w) {
                    int heads = way.getKey().get(1);
                    count += way.getValue();
                    fewest = fewest == -1 ? heads : Math.min(fewest, heads);
                    most = Math.max(most, heads);
                }
            }
            return f == -1 ? count : what == 0 ? fewest : most;
        }

        int lies(int p, int w, int what) {
            List<Integer> sets = new ArrayList<>();
            for (int set = 0; set < 1 << facts.size(); set++) {
                int sum = 0;
                boolean his = true;
                for (int f = 0; f < facts.size(); f++) {
                    boolean in = (set & 1 << f) != 0;
                    boolean ofHim = facts.get(f)[0] == p;
                    his &= ofHim || !in;
                    sum += ofHim ? facts.get(f)[1] * heads(f) * (in ? -1 : 1) : 0;
                }
                if (his && sum == w) {
                    sets.add(set);
                }
            }
            int sure = sets.isEmpty() ? 0 : -1;
            for (int set : sets) {
                sure &= set;
            }
            return what == 0 ? sets.size() : what == 1 ? (sets.isEmpty() ? -1 : sets.get(0)) : sure;
        }

        int apart(int f, int p, int what) {
            int best = -1;
            for (int broken = 0; broken < 1 << friendships.size(); broken++) {
                int size = Integer.bitCount(broken);
                if ((best == -1 || size < Integer.bitCount(best)) && !comes(f, p, broken)) {
                    best = broken;
                }
            }
            return what == 0 ? Integer.bitCount(best) : best;
        }

        boolean comes(int f, int p, int broken) {
            int reached = knowers(f);
            for (int round = 0; round < people; round++) {
                for (int k = 0; k < friendships.size(); k++) {
                    int a = friendships.get(k)[0];
                    int b = friendships.get(k)[1];
                    if ((broken & 1 << k) == 0) {
                        reached |= (reached & 1 << a) != 0 && !quiet.contains(a) ? 1 << b : 0;
                        reached |= (reached & 1 << b) != 0 && !quiet.contains(b) ? 1 << a : 0;
                    }
                }
            }
            return (reached & 1 << p) != 0;
        }

        int forgettable(int head, int of, int set) {
            int grams = 0;
            for (int f = 0; f < facts.size(); f++) {
                int[] fact = facts.get(f);
                if ((set & 1 << f) != 0) {
                    if (fact[0] != of || fact[2] == 1 || !has.containsKey(List.of(head, f))) {
                        return -1;
                    }
                    grams += fact[1];
                }
            }
            return grams;
        }

        int treaty(int a, int b, int what) {
            int[] best = {0, 0, 0};
            for (int one = 0; one < 1 << facts.size(); one++) {
                int grams = forgettable(a, b, one);
                for (int other = 0; grams > best[0] && other < 1 << facts.size(); other++) {
                    if (forgettable(b, a, other) == grams) {
                        best = new int[] {grams, one, other};
                    }
                }
            }
            return best[what];
        }

        int odds(int p, int bears, int q) {
            Map<Integer, Long> there = new TreeMap<>();
            there.put(weight(p), 1000000000L);
            for (int f = 0; f < facts.size(); f++) {
                int[] fact = facts.get(f);
                for (int k = 0; k < heads(f) && fact[0] == p; k++) {
                    Map<Integer, Long> next = new TreeMap<>();
                    there.forEach((w, x) -> {
                        next.merge(fact[2] == 1 ? w + fact[1] : w - fact[1], x * q / 100, Long::sum);
                        next.merge(w, x - x * q / 100, Long::sum);
                    });
                    there = next;
                }
            }
            long sum = 0;
            for (Map.Entry<Integer, Long> one : there.entrySet()) {
                sum += one.getKey() <= bears ? one.getValue() : 0;
            }
            return (int) sum;
        }

        int judge() {
            for (int k = 0; k < scales.size(); k++) {
                if (weight(scales.get(k)[0]) != scales.get(k)[1]) {
                    return k;
                }
            }
            return -1;
        }
    }
}
