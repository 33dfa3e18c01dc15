import java.util.Arrays;
import java.util.NoSuchElementException;

/**
 * A prover for clauses of equations between terms: whether they contradict one another, what
 * follows from them, and the least of the worlds in which they hold.
 */
public final class EqualityProver {
    private static final int NONE = -1;

    private static final int MAX_TERMS = 20;
    private static final int MAX_THINGS = 8;
    private static final int MAX_LITERALS = 4;
    private static final int MAX_CLAUSES = 16;
    private static final int MAX_LEVEL = 4;
    private static final int MAX_CONSTANTS = 4;
    /** One more than all clauses can have: follows puts its question there. */
    private static final int MAX_INSTANCES = MAX_CLAUSES * MAX_CONSTANTS * MAX_CONSTANTS + 1;

    private static final int CONSTANT = 0;
    private static final int F = 1;
    private static final int G = 2;
    private static final int X = 3;
    private static final int Y = 4;

    private static final int HAS_X = 1;
    private static final int HAS_Y = 2;

    private final int constantCount;
    private final TermTable termTable;
    private final ThingTable thingTable;
    private final Draft draft = new Draft();
    private final Substitution substitution = new Substitution();
    private final InstanceList instances = new InstanceList();
    private final World world = new World();

    private int clauseCount = 0;
    private int highestLevel = 0;
    /** For each level how many clauses, and instances, there were when it was opened. */
    private final int[] clausesBelow = new int[MAX_LEVEL + 1];
    private final int[] instancesBelow = new int[MAX_LEVEL + 1];

    public EqualityProver(int constants) {
        constantCount = 1 + Math.floorMod(constants, MAX_CONSTANTS);
        termTable = new TermTable(constantCount);
        thingTable = new ThingTable(constantCount);
    }

    public int term(int kind, int a, int b) throws IllegalArgumentException, IllegalStateException {
        if (kind < F || kind > Y) {
            throw new IllegalArgumentException("no such kind");
        }
        boolean takesFirst = kind == F || kind == G;
        boolean takesSecond = kind == G;
        if ((takesFirst && !termTable.has(a)) || (takesSecond && !termTable.has(b))) {
            throw new IllegalArgumentException("no such term");
        }
        // What is of no matter is put to 0, so that same terms look the same.
        int number = termTable.findOrAdd(kind, takesFirst ? a : 0, takesSecond ? b : 0);
        if (number == NONE) {
            throw new IllegalStateException("no room for a term");
        }
        return number;
    }

    public int literal(int s, int t, boolean equal)
            throws IllegalArgumentException, IllegalStateException {
        if (!termTable.has(s) || !termTable.has(t)) {
            throw new IllegalArgumentException("no such term");
        }
        if (draft.isFull()) {
            throw new IllegalStateException("no room for a literal");
        }
        draft.add(s, t, equal);
        return draft.size();
    }

    public int clause() throws IllegalStateException {
        int made = takeDraft();
        draft.empty();
        if (made == NONE) {
            throw new IllegalStateException("no room for a clause");
        }
        return made;
    }

    public int open() throws IllegalStateException {
        if (highestLevel >= MAX_LEVEL) {
            throw new IllegalStateException("no room for a level");
        }
        highestLevel++;
        clausesBelow[highestLevel] = clauseCount;
        instancesBelow[highestLevel] = instances.size();
        return highestLevel;
    }

    public int close() throws IllegalStateException {
        if (highestLevel <= 0) {
            throw new IllegalStateException("level 0 stays");
        }
        int gone = clauseCount - clausesBelow[highestLevel];
        clauseCount = clausesBelow[highestLevel];
        instances.shrinkTo(instancesBelow[highestLevel]);
        highestLevel--;
        return gone;
    }

    public boolean contradict() {
        return !world.becomeLeast(thingTable, instances);
    }

    public boolean follows(int s, int t, boolean equal) throws IllegalArgumentException {
        if (!thingTable.has(s) || !thingTable.has(t)) {
            throw new IllegalArgumentException("no such thing");
        }
        // It follows when its opposite, taken as one more instance, leaves no world.
        int before = instances.size();
        instances.begin();
        instances.join(s, t, !equal);
        instances.finish();
        boolean refuted = !world.becomeLeast(thingTable, instances);
        instances.shrinkTo(before);
        return refuted;
    }

    public int label(int thing) throws IllegalArgumentException, NoSuchElementException {
        if (!thingTable.has(thing)) {
            throw new IllegalArgumentException("no such thing");
        }
        if (!world.becomeLeast(thingTable, instances)) {
            throw new NoSuchElementException("the clauses contradict one another");
        }
        return world.labelOf(thing);
    }

    public int thing(int k) throws IllegalArgumentException {
        if (!thingTable.has(k)) {
            throw new IllegalArgumentException("no such thing");
        }
        return thingTable.termOf(k);
    }

    public int things() {
        return thingTable.size();
    }

    public int terms() {
        return termTable.size();
    }

    public int look(int term, int what) throws IllegalArgumentException {
        if (!termTable.has(term) || what < 0 || what > 2) {
            throw new IllegalArgumentException("no such term or what");
        }
        switch (what) {
            case 0:
                return termTable.kindOf(term);
            case 1:
                return termTable.firstOf(term);
            default:
                return termTable.secondOf(term);
        }
    }

    public int clauses() {
        return clauseCount;
    }

    public int level() {
        return highestLevel;
    }

    /** Makes a clause of the draft: how many instances it has; NONE, and no change, if it can't. */
    private int takeDraft() {
        if (clauseCount >= MAX_CLAUSES) {
            return NONE;
        }
        int termsBefore = termTable.size();
        int thingsBefore = thingTable.size();
        int instancesBefore = instances.size();
        int variables = draft.variables(termTable);
        int choicesOfX = (variables & HAS_X) != 0 ? constantCount : 1;
        int choicesOfY = (variables & HAS_Y) != 0 ? constantCount : 1;
        for (int x = 0; x < choicesOfX; x++) {
            for (int y = 0; y < choicesOfY; y++) {
                if (!addInstance(x, y)) {
                    termTable.shrinkTo(termsBefore);
                    thingTable.shrinkTo(thingsBefore);
                    instances.shrinkTo(instancesBefore);
                    return NONE;
                }
            }
        }
        clauseCount++;
        return choicesOfX * choicesOfY;
    }

    /** Adds the draft's instance with these constants; false when there is no room for its terms. */
    private boolean addInstance(int x, int y) {
        substitution.begin(x, y);
        instances.begin();
        for (int i = 0; i < draft.size(); i++) {
            int s = substitution.thingFor(draft.leftOf(i), termTable, thingTable, 0);
            if (s == NONE) {
                return false;
            }
            int t = substitution.thingFor(draft.rightOf(i), termTable, thingTable, 0);
            if (t == NONE) {
                return false;
            }
            instances.join(s, t, draft.saysEqual(i));
        }
        instances.finish();
        return true;
    }

    /**
     * Terms, or things, by their numbers: the kind of each, and the numbers of those that stand in it,
     * which are always lower; 0 where nothing stands. A constant has its own number for its first.
     */
    private abstract static class NumberedTable {
        private final int[] kinds;
        private final int[] firsts;
        private final int[] seconds;
        private int count = 0;

        NumberedTable(int room) {
            kinds = new int[room];
            firsts = new int[room];
            seconds = new int[room];
        }

        final int size() {
            return count;
        }

        final boolean has(int number) {
            return number >= 0 && number < count;
        }

        final int kindOf(int number) {
            return kinds[number];
        }

        final int firstOf(int number) {
            return firsts[number];
        }

        final int secondOf(int number) {
            return seconds[number];
        }

        final int find(int kind, int first, int second) {
            for (int i = 0; i < count; i++) {
                if (kinds[i] == kind && firsts[i] == first && seconds[i] == second) {
                    return i;
                }
            }
            return NONE;
        }

        final int add(int kind, int first, int second) {
            if (count >= kinds.length) {
                return NONE;
            }
            kinds[count] = kind;
            firsts[count] = first;
            seconds[count] = second;
            count++;
            return count - 1;
        }

        final void shrinkTo(int size) {
            count = size;
        }
    }

    private static final class TermTable extends NumberedTable {
        private final int[] variables = new int[MAX_TERMS];

        TermTable(int constants) {
            super(MAX_TERMS);
            for (int i = 0; i < constants; i++) {
                add(CONSTANT, i, 0);
            }
        }

        int variablesOf(int number) {
            return variables[number];
        }

        /** The number of a term, which is made if it is not there; NONE if there is no room. */
        int findOrAdd(int kind, int first, int second) {
            int known = find(kind, first, second);
            if (known != NONE) {
                return known;
            }
            int made = add(kind, first, second);
            if (made != NONE) {
                variables[made] = variablesIn(kind, first, second);
            }
            return made;
        }

        private int variablesIn(int kind, int first, int second) {
            switch (kind) {
                case X:
                    return HAS_X;
                case Y:
                    return HAS_Y;
                case F:
                    return variables[first];
                case G:
                    return variables[first] | variables[second];
                default:
                    return 0;
            }
        }
    }

    private static final class ThingTable extends NumberedTable {
        private final int[] termNumbers = new int[MAX_THINGS];

        ThingTable(int constants) {
            super(MAX_THINGS);
            for (int i = 0; i < constants; i++) {
                add(CONSTANT, i, 0);
                termNumbers[i] = i;
            }
        }

        int termOf(int number) {
            return termNumbers[number];
        }

        /** The thing of these things, made of this term if it is not there; NONE if there is no room. */
        int findOrAdd(int termNumber, int kind, int first, int second) {
            int known = find(kind, first, second);
            if (known != NONE) {
                return known;
            }
            int made = add(kind, first, second);
            if (made != NONE) {
                termNumbers[made] = termNumber;
            }
            return made;
        }
    }

    /** The literals that have been given since the last clause. */
    private static final class Draft {
        private final int[] lefts = new int[MAX_LITERALS];
        private final int[] rights = new int[MAX_LITERALS];
        private final boolean[] claims = new boolean[MAX_LITERALS];
        private int count = 0;

        int size() {
            return count;
        }

        boolean isFull() {
            return count >= MAX_LITERALS;
        }

        int leftOf(int i) {
            return lefts[i];
        }

        int rightOf(int i) {
            return rights[i];
        }

        boolean saysEqual(int i) {
            return claims[i];
        }

        void add(int left, int right, boolean equal) {
            lefts[count] = left;
            rights[count] = right;
            claims[count] = equal;
            count++;
        }

        void empty() {
            count = 0;
        }

        int variables(TermTable table) {
            int found = 0;
            for (int i = 0; i < count; i++) {
                found |= table.variablesOf(lefts[i]) | table.variablesOf(rights[i]);
            }
            return found;
        }
    }

    /** A constant for X and one for Y, and what the terms become with them. */
    private static final class Substitution {
        private int x = 0;
        private int y = 0;
        /** The things that F and G become, kept since G of G of G .. has a term in it very often. */
        private final int[] results = new int[MAX_TERMS];

        void begin(int constantForX, int constantForY) {
            x = constantForX;
            y = constantForY;
            Arrays.fill(results, NONE);
        }

        /** The thing that a term becomes, made with all that is in it; NONE if there is no room. */
        private int thingFor(int number, TermTable table, ThingTable target, int depth) {
            switch (table.kindOf(number)) {
                case CONSTANT:
                    // The constants are the first terms and the first things.
                    return number;
                case X:
                    return x;
                case Y:
                    return y;
                default:
                    break;
            }
            if (depth > MAX_TERMS) {
                return NONE;
            }
            if (results[number] == NONE) {
                results[number] = thingForCompound(number, table, target, depth);
            }
            return results[number];
        }

        private int thingForCompound(int number, TermTable table, ThingTable target, int depth) {
            int kind = table.kindOf(number);
            int first = thingFor(table.firstOf(number), table, target, depth + 1);
            if (first == NONE) {
                return NONE;
            }
            int second = kind == G ? thingFor(table.secondOf(number), table, target, depth + 1) : 0;
            if (second == NONE) {
                return NONE;
            }
            int secondTerm = kind == G ? target.termOf(second) : 0;
            int result = table.findOrAdd(kind, target.termOf(first), secondTerm);
            return result == NONE ? NONE : target.findOrAdd(result, kind, first, second);
        }
    }

    /**
     * The instances of the clauses. Each is two sets of pairs of things: it holds when a pair of the
     * first set is equal or one of the second is not. A set of pairs is an int with a bit for each.
     */
    private static final class InstanceList {
        private final int[] equalPairs = new int[MAX_INSTANCES];
        private final int[] unequalPairs = new int[MAX_INSTANCES];
        private int count = 0;
        private int nextEqual = 0;
        private int nextUnequal = 0;
        private boolean nextAlwaysHolds = false;

        /** The pairs among the first so many things: pairs are ordered such that these come first. */
        static int pairsAmong(int size) {
            return (1 << (size * (size - 1) / 2)) - 1;
        }

        static int pair(int s, int t) {
            int low = Math.min(s, t);
            int high = Math.max(s, t);
            return 1 << (high * (high - 1) / 2 + low);
        }

        int size() {
            return count;
        }

        void shrinkTo(int size) {
            count = size;
        }

        void begin() {
            nextEqual = 0;
            nextUnequal = 0;
            nextAlwaysHolds = false;
        }

        /** One more literal in the instance that has begun. */
        void join(int s, int t, boolean equal) {
            if (s == t) {
                nextAlwaysHolds = nextAlwaysHolds || equal;
            } else if (equal) {
                nextEqual |= pair(s, t);
            } else {
                nextUnequal |= pair(s, t);
            }
        }

        /** Keeps the instance that has begun, unless it holds in every world. */
        void finish() {
            if (nextAlwaysHolds || (nextEqual & nextUnequal) != 0 || count >= MAX_INSTANCES) {
                return;
            }
            equalPairs[count] = nextEqual;
            unequalPairs[count] = nextUnequal;
            count++;
        }

        /** Whether each instance has a pair that can be equal, or one that can be unequal. */
        boolean canHold(int canBeEqual, int canBeUnequal) {
            for (int i = 0; i < count; i++) {
                if ((canBeEqual & equalPairs[i]) == 0 && (canBeUnequal & unequalPairs[i]) == 0) {
                    return false;
                }
            }
            return true;
        }
    }

    /** The world that was found last, or a part of one while it is looked for. */
    private static final class World {
        private final int[] labels = new int[MAX_THINGS];

        int labelOf(int number) {
            return labels[number];
        }

        /** Becomes the least world in which the instances hold; false if there is none. */
        boolean becomeLeast(ThingTable table, InstanceList instances) {
            return place(0, 0, table, instances);
        }

        /**
         * Places the things from this one on. Low labels are tried first, so the first world that is
         * found is the least.
         */
        private boolean place(int next, int equalPairs, ThingTable table, InstanceList instances) {
            if (next >= MAX_THINGS || next >= table.size()) {
                return true;
            }
            for (int lowest = 0; lowest <= next; lowest++) {
                if (lowest < next && labels[lowest] != lowest) {
                    continue;
                }
                labels[next] = lowest;
                int equal = equalPairs | pairsInBoxWith(next);
                int undecided = ~InstanceList.pairsAmong(next + 1);
                if (respectsBoxes(next, table)
                        && instances.canHold(equal | undecided, ~equal)
                        && place(next + 1, equal, table, instances)) {
                    return true;
                }
            }
            return false;
        }

        private int pairsInBoxWith(int last) {
            int pairs = 0;
            for (int i = 0; i < last; i++) {
                if (labels[i] == labels[last]) {
                    pairs |= InstanceList.pair(i, last);
                }
            }
            return pairs;
        }

        /** Whether the last thing is in one box with every F, or G, of things from the same boxes. */
        private boolean respectsBoxes(int last, ThingTable table) {
            int kind = table.kindOf(last);
            if (kind == CONSTANT) {
                return true;
            }
            // All F have 0 for their second one, so that they never differ there.
            for (int i = 0; i < last; i++) {
                if (table.kindOf(i) == kind
                        && labels[table.firstOf(i)] == labels[table.firstOf(last)]
                        && labels[table.secondOf(i)] == labels[table.secondOf(last)]
                        && labels[i] != labels[last]) {
                    return false;
                }
            }
            return true;
        }
    }
}
