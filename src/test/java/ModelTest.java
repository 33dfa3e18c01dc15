import java.util.TreeMap;

/**
 * Long runs of calls against a plain model that holds terms as texts and goes through all worlds.
 * The runs come from a counter of their own, so they are the same each time.
 */
public final class ModelTest {
    private static final int RUNS = 1000;
    private static final int CALLS = 512;

    private static final String[] NAMES = {"term", "literal", "clause", "open", "close", "contradict",
        "follows", "label", "thing", "things", "terms", "look", "clauses", "level"};
    private static final int[][] WEIGHTS = {
        {4, 16, 10, 3, 3, 4, 10, 10, 2, 1, 1, 2, 1, 1},
        {8, 8, 6, 1, 1, 2, 6, 6, 3, 1, 1, 3, 1, 1},
        {2, 12, 4, 2, 1, 3, 8, 8, 1, 1, 1, 1, 1, 1},
    };

    private static final TreeMap<String, Integer> SEEN = new TreeMap<>();

    private static String pickName(Numbers numbers, int[] weights) {
        int sum = 0;
        for (int weight : weights) {
            sum += weight;
        }
        int pick = numbers.below(sum);
        int call = 0;
        while (pick >= weights[call]) {
            pick -= weights[call];
            call++;
        }
        return NAMES[call];
    }

    private static AnyCall withArguments(Numbers numbers, String name, Model m) {
        int terms = m.terms.size();
        int things = m.things.size();
        switch (name) {
            case "term":
                return AnyCall.of(name, numbers.near(5), numbers.near(terms), numbers.near(terms));
            case "literal":
                return AnyCall.of(name, numbers.near(terms), numbers.near(terms), numbers.below(2));
            case "follows":
                return AnyCall.of(name, numbers.near(things), numbers.near(things), numbers.below(2));
            case "look":
                return AnyCall.of(name, numbers.near(terms), numbers.near(3));
            case "label":
            case "thing":
                return AnyCall.of(name, numbers.near(things));
            default:
                return AnyCall.of(name);
        }
    }

    private static boolean runGoesWell(int run) {
        Numbers numbers = new Numbers(run);
        int argument = numbers.below(20) - 10;
        EqualityProver p = new EqualityProver(argument);
        Model m = new Model(argument);
        int[] weights = WEIGHTS[run % WEIGHTS.length];
        for (int i = 0; i < CALLS; i++) {
            boolean noWorld = m.allWorlds().isEmpty();
            if (noWorld && m.levels.size() == 1 && numbers.below(10) == 0) {
                return true;
            }
            String name = noWorld && numbers.below(3) == 0 ? "close" : pickName(numbers, weights);
            if (isDull(name, m, numbers)) {
                continue;
            }
            AnyCall call = withArguments(numbers, name, m);
            String want = call.answerOf(m);
            String got = call.answerOf(p);
            SEEN.merge(name + " " + want, 1, Integer::sum);
            if (!got.equals(want)) {
                System.out.println("run " + run + ", call " + i + ": " + call + " answered " + got
                        + ", due is " + want);
                return false;
            }
        }
        return true;
    }

    /** Calls that would soon leave nothing but contradictions, and terms that are slow as texts. */
    private static boolean isDull(String name, Model m, Numbers numbers) {
        if (name.equals("term")) {
            return m.longestTerm() > 2000;
        }
        if (name.equals("clause")) {
            return numbers.below(20) != 0 && m.draft.size() < 3 * (1 + numbers.below(4));
        }
        return false;
    }

    public static void main(String[] args) {
        int wrong = 0;
        for (int run = 1; run <= RUNS; run++) {
            wrong += runGoesWell(run) ? 0 : 1;
        }
        if (args.length > 0) {
            SEEN.forEach((what, times) -> System.out.println(what + ": " + times));
        }
        System.out.println(wrong == 0 ? RUNS + " runs are as due" : wrong + " runs are not as due");
        if (wrong != 0) {
            System.exit(1);
        }
    }
}
