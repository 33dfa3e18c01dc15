import java.util.ArrayList;
import java.util.List;
import java.util.TreeMap;

/**
 * Runs of whole acts: terms are made, a clause is written and taken or refused, a level is opened or
 * closed. Behind each act a new object makes all calls so far, and then all that it tells is compared
 * with the plain model. The runs come from a counter, so they are the same each time.
 */
public final class ReplayTest {
    private static final int RUNS = 1000;
    private static final int ACTS = 40;
    /** What is left of 512 calls when 8 things and 20 terms have been read. */
    private static final int MAX_CALLS = 512 - 240;

    private static final TreeMap<String, Integer> SEEN = new TreeMap<>();

    private final int argument;
    private final Numbers numbers;
    private final Model model;
    private final List<AnyCall> calls = new ArrayList<>();
    private final List<String> answers = new ArrayList<>();

    private ReplayTest(int run) {
        numbers = new Numbers(run);
        argument = numbers.below(4);
        model = new Model(argument);
    }

    private String make(AnyCall call) {
        String answer = call.answerOf(model);
        calls.add(call);
        answers.add(answer);
        return answer;
    }

    // ---- acts

    private void makeTerm() {
        int terms = model.terms.size();
        if (model.longestTerm() < 300) {
            make(AnyCall.of("term", 1 + numbers.below(4), numbers.below(terms), numbers.below(terms)));
        }
    }

    private void makeFirstTerms() {
        make(AnyCall.of("term", 3));
        if (numbers.below(2) == 0) {
            make(AnyCall.of("term", 4));
        }
        int count = 2 + numbers.below(4);
        for (int i = 0; i < count; i++) {
            makeTerm();
        }
    }

    /** Clauses with several literals are had more often, as others soon contradict one another. */
    private void takeClause() {
        int terms = model.terms.size();
        int literals = numbers.below(25) == 0 ? 0 : Math.min(4, 1 + numbers.below(5));
        for (int i = 0; i < literals; i++) {
            make(AnyCall.of("literal", numbers.below(terms), numbers.below(terms), numbers.below(2)));
        }
        String answer = make(AnyCall.of("clause"));
        seen("clause " + answer + " on level " + (model.levels.size() - 1));
    }

    private void openLevel() {
        seen("open " + make(AnyCall.of("open")));
    }

    private void closeLevel() {
        seen("close " + make(AnyCall.of("close")));
    }

    private void act() {
        int pick = numbers.below(20);
        boolean noWorld = model.allWorlds().isEmpty();
        if (noWorld && model.levels.size() > 1 && pick < 14) {
            closeLevel();
        } else if (pick < 12) {
            takeClause();
        } else if (pick < 14) {
            makeTerm();
        } else if (pick < 18) {
            openLevel();
        } else {
            closeLevel();
        }
    }

    private static void seen(String what) {
        SEEN.merge(what, 1, Integer::sum);
    }

    // ---- what is told

    private List<AnyCall> reading() {
        List<AnyCall> all = new ArrayList<>();
        for (String name : new String[] {"contradict", "things", "terms", "clauses", "level"}) {
            all.add(AnyCall.of(name));
        }
        for (int term = 0; term < model.terms.size(); term++) {
            for (int what = 0; what <= 2; what++) {
                all.add(AnyCall.of("look", term, what));
            }
        }
        int things = model.things.size();
        for (int s = 0; s < things; s++) {
            all.add(AnyCall.of("thing", s));
            all.add(AnyCall.of("label", s));
            for (int t = 0; t < things; t++) {
                all.add(AnyCall.of("follows", s, t, 0));
                all.add(AnyCall.of("follows", s, t, 1));
            }
        }
        return all;
    }

    private boolean answersAreDue(EqualityProver p, List<AnyCall> made, List<String> due) {
        for (int i = 0; i < made.size(); i++) {
            String got = made.get(i).answerOf(p);
            if (!got.equals(due.get(i))) {
                System.out.println("new EqualityProver(" + argument + ") behind " + calls + ": "
                        + made.get(i) + " answered " + got + ", due is " + due.get(i));
                return false;
            }
        }
        return true;
    }

    private boolean replayGoesWell() {
        seen(model.allWorlds().isEmpty() ? "no world" : model.clauses.isEmpty() ? "no clause" : "a world");
        EqualityProver p = new EqualityProver(argument);
        List<AnyCall> reading = reading();
        List<String> due = new ArrayList<>();
        for (AnyCall call : reading) {
            due.add(call.answerOf(model));
        }
        return answersAreDue(p, calls, answers) && answersAreDue(p, reading, due);
    }

    private boolean goesWell() {
        makeFirstTerms();
        for (int i = 0; i < ACTS && calls.size() + 5 <= MAX_CALLS && !isAtItsEnd(); i++) {
            act();
            if (!replayGoesWell()) {
                return false;
            }
        }
        return true;
    }

    /** What contradicts one another on level 0 does so for good. */
    private boolean isAtItsEnd() {
        return model.levels.size() == 1 && model.allWorlds().isEmpty() && numbers.below(3) == 0;
    }

    public static void main(String[] args) {
        int wrong = 0;
        for (int run = 1; run <= RUNS; run++) {
            wrong += new ReplayTest(run).goesWell() ? 0 : 1;
        }
        if (args.length > 0) {
            SEEN.forEach((what, times) -> System.out.println(what + ": " + times));
        }
        System.out.println(wrong == 0 ? RUNS + " runs are as due" : wrong + " runs are not as due");
        if (wrong != 0) {
            System.exit(1);
        }
    }
}
