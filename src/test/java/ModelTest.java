import java.util.ArrayList;
import java.util.List;
import java.util.NoSuchElementException;

/**
 * Long runs of calls against a plain model that holds terms as texts and goes through all worlds.
 * The runs come from a counter of their own, so they are the same each time.
 */
public final class ModelTest {
    private static final int RUNS = 1000;
    private static final int CALLS = 512;

    /** What the document says, with no regard to speed. */
    private static final class Model {
        final int constants;
        final List<String> terms = new ArrayList<>();
        final List<int[]> shapes = new ArrayList<>();
        final List<String> things = new ArrayList<>();
        final List<String> draft = new ArrayList<>();
        /** Each clause: its instances; each instance: texts left, right, claim, one after the other. */
        final List<List<List<String>>> clauses = new ArrayList<>();
        final List<Integer> levels = new ArrayList<>();
        List<int[]> worlds;

        Model(int argument) {
            constants = 1 + ((argument % 4) + 4) % 4;
            for (int i = 0; i < constants; i++) {
                terms.add("c" + i);
                shapes.add(new int[] {0, i, 0});
                things.add("c" + i);
            }
            levels.add(0);
        }

        boolean isTerm(int n) {
            return n >= 0 && n < terms.size();
        }

        boolean isThing(int n) {
            return n >= 0 && n < things.size();
        }

        long term(int kind, int a, int b) {
            String text;
            if (kind == 1) {
                if (!isTerm(a)) {
                    throw new IllegalArgumentException();
                }
                text = "F(" + terms.get(a) + ")";
            } else if (kind == 2) {
                if (!isTerm(a) || !isTerm(b)) {
                    throw new IllegalArgumentException();
                }
                text = "G(" + terms.get(a) + "," + terms.get(b) + ")";
            } else if (kind == 3) {
                text = "X";
            } else if (kind == 4) {
                text = "Y";
            } else {
                throw new IllegalArgumentException();
            }
            if (!terms.contains(text)) {
                if (terms.size() == 20) {
                    throw new IllegalStateException();
                }
                terms.add(text);
                shapes.add(new int[] {kind, kind <= 2 ? a : 0, kind == 2 ? b : 0});
            }
            return terms.indexOf(text);
        }

        long literal(int s, int t, boolean equal) {
            if (!isTerm(s) || !isTerm(t)) {
                throw new IllegalArgumentException();
            }
            if (draft.size() == 12) {
                throw new IllegalStateException();
            }
            draft.add(terms.get(s));
            draft.add(terms.get(t));
            draft.add(equal ? "=" : "#");
            return draft.size() / 3;
        }

        long clause() {
            List<String> taken = new ArrayList<>(draft);
            draft.clear();
            if (clauses.size() == 16) {
                throw new IllegalStateException();
            }
            String all = String.join(" ", taken);
            List<List<String>> instances = new ArrayList<>();
            List<String> parts = new ArrayList<>();
            for (int x = 0; x < (all.contains("X") ? constants : 1); x++) {
                for (int y = 0; y < (all.contains("Y") ? constants : 1); y++) {
                    List<String> instance = new ArrayList<>();
                    for (String text : taken) {
                        String ground = text.replace("X", "c" + x).replace("Y", "c" + y);
                        instance.add(ground);
                        if (!text.equals("=") && !text.equals("#")) {
                            collect(ground, parts);
                        }
                    }
                    instances.add(instance);
                }
            }
            keep(parts);
            clauses.add(instances);
            worlds = null;
            return instances.size();
        }

        static String[] insides(String text) {
            if (text.charAt(0) == 'c') {
                return new String[0];
            }
            String inside = text.substring(2, text.length() - 1);
            if (text.charAt(0) == 'F') {
                return new String[] {inside};
            }
            int depth = 0;
            int i = 0;
            while (depth != 0 || inside.charAt(i) != ',') {
                depth += inside.charAt(i) == '(' ? 1 : inside.charAt(i) == ')' ? -1 : 0;
                i++;
            }
            return new String[] {inside.substring(0, i), inside.substring(i + 1)};
        }

        static void collect(String text, List<String> parts) {
            for (String inside : insides(text)) {
                collect(inside, parts);
            }
            if (!parts.contains(text)) {
                parts.add(text);
            }
        }

        void keep(List<String> parts) {
            int newTerms = 0;
            int newThings = 0;
            for (String part : parts) {
                newTerms += terms.contains(part) ? 0 : 1;
                newThings += things.contains(part) ? 0 : 1;
            }
            if (terms.size() + newTerms > 20 || things.size() + newThings > 8) {
                throw new IllegalStateException();
            }
            for (String part : parts) {
                if (!terms.contains(part)) {
                    String[] insides = insides(part);
                    terms.add(part);
                    shapes.add(new int[] {insides.length, terms.indexOf(insides[0]),
                        insides.length == 2 ? terms.indexOf(insides[1]) : 0});
                }
                if (!things.contains(part)) {
                    things.add(part);
                }
            }
        }

        long open() {
            if (levels.size() == 5) {
                throw new IllegalStateException();
            }
            levels.add(clauses.size());
            return levels.size() - 1;
        }

        long close() {
            if (levels.size() == 1) {
                throw new IllegalStateException();
            }
            int from = levels.remove(levels.size() - 1);
            int gone = 0;
            while (clauses.size() > from) {
                clauses.remove(clauses.size() - 1);
                gone++;
            }
            worlds = null;
            return gone;
        }

        /** All worlds of the clauses, as boxes of the things: boxes are numbered as they are first used. */
        List<int[]> allWorlds() {
            if (worlds == null) {
                worlds = new ArrayList<>();
                divide(new int[things.size()], 0, 0);
            }
            return worlds;
        }

        void divide(int[] boxes, int next, int used) {
            if (next == boxes.length) {
                if (isWorld(boxes) && holds(boxes)) {
                    worlds.add(boxes.clone());
                }
                return;
            }
            for (int box = 0; box <= used; box++) {
                boxes[next] = box;
                divide(boxes, next + 1, Math.max(used, box + 1));
            }
        }

        boolean isWorld(int[] boxes) {
            for (int i = 0; i < boxes.length; i++) {
                for (int j = 0; j < i; j++) {
                    if (boxes[i] != boxes[j] && mustShare(things.get(i), things.get(j), boxes)) {
                        return false;
                    }
                }
            }
            return true;
        }

        boolean mustShare(String s, String t, int[] boxes) {
            String[] inS = insides(s);
            String[] inT = insides(t);
            if (inS.length == 0 || inS.length != inT.length) {
                return false;
            }
            for (int i = 0; i < inS.length; i++) {
                if (boxes[things.indexOf(inS[i])] != boxes[things.indexOf(inT[i])]) {
                    return false;
                }
            }
            return true;
        }

        boolean holds(int[] boxes) {
            for (List<List<String>> clause : clauses) {
                for (List<String> instance : clause) {
                    boolean some = false;
                    for (int i = 0; i < instance.size(); i += 3) {
                        boolean same = boxes[things.indexOf(instance.get(i))]
                                == boxes[things.indexOf(instance.get(i + 1))];
                        some |= same == instance.get(i + 2).equals("=");
                    }
                    if (!some) {
                        return false;
                    }
                }
            }
            return true;
        }

        long follows(int s, int t, boolean equal) {
            if (!isThing(s) || !isThing(t)) {
                throw new IllegalArgumentException();
            }
            for (int[] boxes : allWorlds()) {
                if ((boxes[s] == boxes[t]) != equal) {
                    return 0;
                }
            }
            return 1;
        }

        static int[] labels(int[] boxes) {
            int[] labels = new int[boxes.length];
            for (int i = 0; i < boxes.length; i++) {
                while (boxes[labels[i]] != boxes[i]) {
                    labels[i]++;
                }
            }
            return labels;
        }

        long label(int thing) {
            if (!isThing(thing)) {
                throw new IllegalArgumentException();
            }
            int[] least = null;
            for (int[] boxes : allWorlds()) {
                int[] labels = labels(boxes);
                if (least == null || java.util.Arrays.compare(labels, least) < 0) {
                    least = labels;
                }
            }
            if (least == null) {
                throw new NoSuchElementException();
            }
            return least[thing];
        }

        long thing(int k) {
            if (!isThing(k)) {
                throw new IllegalArgumentException();
            }
            return terms.indexOf(things.get(k));
        }

        long look(int term, int what) {
            if (!isTerm(term) || what < 0 || what > 2) {
                throw new IllegalArgumentException();
            }
            return shapes.get(term)[what];
        }
    }

    /** Numbers that look picked by chance, from a counter. */
    private static final class Numbers {
        long state;

        Numbers(long start) {
            state = start * 0x9E3779B97F4A7C15L;
        }

        int below(int bound) {
            state += 0x9E3779B97F4A7C15L;
            long z = (state ^ (state >>> 30)) * 0xBF58476D1CE4E5B9L;
            z = (z ^ (z >>> 27)) * 0x94D049BB133111EBL;
            return (int) Long.remainderUnsigned(z ^ (z >>> 31), bound);
        }

        /** Mostly a number below the bound, sometimes one that is not. */
        int near(int bound) {
            int pick = below(40);
            return pick == 0 ? -1 : pick == 1 ? bound : pick == 2 ? bound + below(20) : below(bound);
        }
    }

    private static final String[] NAMES = {"term", "literal", "clause", "open", "close", "contradict",
        "follows", "label", "thing", "things", "terms", "look", "clauses", "level"};
    private static final int CLOSE = 4;
    private static final int[][] WEIGHTS = {
        {4, 16, 10, 3, 3, 4, 10, 10, 2, 1, 1, 2, 1, 1},
        {8, 8, 6, 1, 1, 2, 6, 6, 3, 1, 1, 3, 1, 1},
        {2, 12, 4, 2, 1, 3, 8, 8, 1, 1, 1, 1, 1, 1},
    };

    private static int pickCall(Numbers numbers, int[] weights) {
        int sum = 0;
        for (int weight : weights) {
            sum += weight;
        }
        int pick = numbers.below(sum);
        int call = 0;
        while (pick >= weights[call]) {
            pick -= weights[call];
            call++;
        }
        return call;
    }

    private static int[] pickArguments(Numbers numbers, int call, Model m) {
        switch (NAMES[call]) {
            case "term":
                return new int[] {numbers.near(5), numbers.near(m.terms.size()), numbers.near(m.terms.size()), 0};
            case "literal":
                return new int[] {numbers.near(m.terms.size()), numbers.near(m.terms.size()), numbers.below(2), 0};
            case "follows":
                return new int[] {numbers.near(m.things.size()), numbers.near(m.things.size()), numbers.below(2), 0};
            case "look":
                return new int[] {numbers.near(m.terms.size()), numbers.near(3), 0, 0};
            default:
                return new int[] {numbers.near(m.things.size()), 0, 0, 0};
        }
    }

    private static long ofProgram(EqualityProver p, int call, int[] n) {
        switch (NAMES[call]) {
            case "term": return p.term(n[0], n[1], n[2]);
            case "literal": return p.literal(n[0], n[1], n[2] == 1);
            case "clause": return p.clause();
            case "open": return p.open();
            case "close": return p.close();
            case "contradict": return p.contradict() ? 1 : 0;
            case "follows": return p.follows(n[0], n[1], n[2] == 1) ? 1 : 0;
            case "label": return p.label(n[0]);
            case "thing": return p.thing(n[0]);
            case "things": return p.things();
            case "terms": return p.terms();
            case "look": return p.look(n[0], n[1]);
            case "clauses": return p.clauses();
            default: return p.level();
        }
    }

    private static long ofModel(Model m, int call, int[] n) {
        switch (NAMES[call]) {
            case "term": return m.term(n[0], n[1], n[2]);
            case "literal": return m.literal(n[0], n[1], n[2] == 1);
            case "clause": return m.clause();
            case "open": return m.open();
            case "close": return m.close();
            case "contradict": return m.allWorlds().isEmpty() ? 1 : 0;
            case "follows": return m.follows(n[0], n[1], n[2] == 1);
            case "label": return m.label(n[0]);
            case "thing": return m.thing(n[0]);
            case "things": return m.things.size();
            case "terms": return m.terms.size();
            case "look": return m.look(n[0], n[1]);
            case "clauses": return m.clauses.size();
            default: return m.levels.size() - 1;
        }
    }

    private static String answer(EqualityProver p, Model m, int call, int[] arguments) {
        try {
            return "" + (p != null ? ofProgram(p, call, arguments) : ofModel(m, call, arguments));
        } catch (RuntimeException e) {
            return "throws." + e.getClass().getSimpleName();
        }
    }

    private static boolean runGoesWell(int run) {
        Numbers numbers = new Numbers(run);
        int argument = numbers.below(20) - 10;
        EqualityProver p = new EqualityProver(argument);
        Model m = new Model(argument);
        int[] weights = WEIGHTS[run % WEIGHTS.length];
        for (int i = 0; i < CALLS; i++) {
            if (m.allWorlds().isEmpty() && m.levels.size() == 1 && numbers.below(10) == 0) {
                return true;
            }
            int call = m.allWorlds().isEmpty() && numbers.below(3) == 0 ? CLOSE : pickCall(numbers, weights);
            if (isDull(call, m, numbers)) {
                continue;
            }
            int[] n = pickArguments(numbers, call, m);
            String want = answer(null, m, call, n);
            String got = answer(p, null, call, n);
            seen(call, want);
            if (!got.equals(want)) {
                System.out.println("run " + run + ", call " + i + ": " + NAMES[call] + " with "
                        + java.util.Arrays.toString(n) + " answered " + got + ", due is " + want);
                return false;
            }
        }
        return true;
    }

    /** Calls that would soon leave nothing but contradictions, and terms that are slow as texts. */
    private static boolean isDull(int call, Model m, Numbers numbers) {
        if (NAMES[call].equals("term")) {
            return longest(m) > 2000;
        }
        if (NAMES[call].equals("clause")) {
            return numbers.below(20) != 0 && m.draft.size() < 3 * (1 + numbers.below(4));
        }
        return false;
    }

    private static int longest(Model m) {
        int longest = 0;
        for (String text : m.terms) {
            longest = Math.max(longest, text.length());
        }
        return longest;
    }

    private static final java.util.TreeMap<String, Integer> SEEN = new java.util.TreeMap<>();

    private static void seen(int call, String want) {
        SEEN.merge(NAMES[call] + " " + want, 1, Integer::sum);
    }

    public static void main(String[] args) {
        int wrong = 0;
        for (int run = 1; run <= RUNS; run++) {
            wrong += runGoesWell(run) ? 0 : 1;
        }
        if (args.length > 0) {
            SEEN.forEach((what, times) -> System.out.println(what + ": " + times));
        }
        System.out.println(wrong == 0 ? RUNS + " runs are as due" : wrong + " runs are not as due");
        if (wrong != 0) {
            System.exit(1);
        }
    }
}
