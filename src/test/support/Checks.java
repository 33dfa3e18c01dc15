/** What the tests share: calls with the answers that are due, and ways to make and read objects. */
abstract class Checks {
    protected static final int F = 1;
    protected static final int G = 2;
    protected static final int X = 3;
    protected static final int Y = 4;

    protected static final String ARGUMENT = "IllegalArgumentException";
    protected static final String STATE = "IllegalStateException";
    protected static final String NO_ELEMENT = "NoSuchElementException";

    private static String section = "";
    private static int checks = 0;
    private static int wrong = 0;

    protected interface Call {
        Object make();
    }

    protected interface Maker {
        EqualityProver make();
    }

    protected interface Use {
        Object of(EqualityProver p);
    }

    protected static void section(String name) {
        section = name;
    }

    private static Object answer(Call call) {
        try {
            return call.make();
        } catch (RuntimeException e) {
            return e.getClass().getSimpleName();
        }
    }

    /** The exception's name stands for a call that throws. */
    protected static void due(String what, Object want, Call call) {
        Object got = answer(call);
        checks++;
        if (!got.equals(want)) {
            wrong++;
            System.out.println(section + ": " + what + " answered " + got + ", due is " + want);
        }
    }

    /** A call that throws, and leaves all other calls with the answers of an object without it. */
    protected static void refused(String what, String exception, Maker maker, Use use) {
        EqualityProver p = maker.make();
        due(what, exception, () -> use.of(p));
        due("what there is behind " + what, everything(maker.make()), () -> everything(p));
    }

    protected static void finish() {
        System.out.println(wrong == 0 ? checks + " answers are as due" : wrong + " answers are not as due");
        if (wrong != 0) {
            System.exit(1);
        }
    }

    /** A clause that says of pairs of terms that one of them is equal. */
    protected static int clause(EqualityProver p, int... pairs) {
        for (int i = 0; i + 1 < pairs.length; i += 2) {
            p.literal(pairs[i], pairs[i + 1], true);
        }
        return p.clause();
    }

    protected static int clauseNot(EqualityProver p, int s, int t) {
        p.literal(s, t, false);
        return p.clause();
    }

    protected static String labels(EqualityProver p) {
        StringBuilder all = new StringBuilder();
        for (int k = 0; k < p.things(); k++) {
            all.append(p.label(k));
        }
        return all.toString();
    }

    protected static String thingTerms(EqualityProver p) {
        StringBuilder all = new StringBuilder();
        for (int k = 0; k < p.things(); k++) {
            all.append(all.length() == 0 ? "" : " ").append(p.thing(k));
        }
        return all.toString();
    }

    protected static String shape(EqualityProver p, int term) {
        return p.look(term, 0) + "," + p.look(term, 1) + "," + p.look(term, 2);
    }

    private static String shapes(EqualityProver p) {
        StringBuilder all = new StringBuilder();
        for (int i = 0; i < p.terms(); i++) {
            all.append(all.length() == 0 ? "" : " ").append(shape(p, i));
        }
        return all.toString();
    }

    private static String allThatFollows(EqualityProver p) {
        StringBuilder all = new StringBuilder();
        int things = p.things();
        for (int s = 0; s < things; s++) {
            for (int t = 0; t < things; t++) {
                all.append(p.follows(s, t, true) ? '=' : '.').append(p.follows(s, t, false) ? '#' : '.');
            }
        }
        return all.toString();
    }

    /**
     * All that the calls tell of an object, in some 250 calls. The draft is told by what becomes of it,
     * with one more literal that never holds: the object is of no use afterwards.
     */
    protected static String everything(EqualityProver p) {
        return "terms " + shapes(p)
                + ", things " + thingTerms(p)
                + ", clauses " + p.clauses()
                + ", level " + p.level()
                + ", contradict " + p.contradict()
                + ", labels " + answer(() -> labels(p))
                + ", follows " + allThatFollows(p)
                + ", draft " + answer(() -> p.literal(0, 0, false))
                + ", clause " + answer(() -> p.clause())
                + ", things " + thingTerms(p)
                + ", labels " + answer(() -> labels(p));
    }

    /** So many terms: behind the constants F of the last one, F of that, and so on. */
    protected static EqualityProver withTerms(int constants, int count) {
        EqualityProver p = new EqualityProver(constants);
        while (p.terms() < count) {
            p.term(F, p.terms() - 1, 0);
        }
        return p;
    }

    /** Numbers that are none of 0 .. bound - 1. */
    protected static int[] outside(int bound) {
        return new int[] {bound, bound + 1, 2 * bound, 1000, Integer.MAX_VALUE,
            -1, -2, -bound, Integer.MIN_VALUE};
    }
}
