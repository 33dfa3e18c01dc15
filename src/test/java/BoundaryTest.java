/**
 * Each sentence of the document that names a boundary, on both sides of it: the last call that is
 * taken, the first that is refused, and what the other calls answer behind a refused one.
 */
public final class BoundaryTest extends Checks {
    private static final int CALLS = 512;
    private static final int MAX_TERMS = 20;
    private static final int MAX_THINGS = 8;
    private static final int MAX_CLAUSES = 16;
    private static final int MAX_LEVEL = 4;

    // ---- What it is

    /** An object behind 511 calls: 0 and 1, F(0) != F(1), on level 1 the draft 0 = F(0). */
    private static EqualityProver nearItsEnd() {
        EqualityProver p = new EqualityProver(1);
        due("call 1", 2, () -> p.term(F, 0, 0));
        due("call 2", 3, () -> p.term(F, 1, 0));
        due("call 3", 1, () -> p.literal(2, 3, false));
        due("call 4", 1, () -> p.clause());
        due("call 5", 1, () -> p.open());
        for (int call = 6; call + 4 < CALLS; call += 4) {
            due("call " + call, 2, () -> p.open());
            due("call " + (call + 1), 1, () -> p.literal(0, 1, true));
            due("call " + (call + 2), 1, () -> p.clause());
            due("call " + (call + 3), 1, () -> p.close());
        }
        due("call 510", 2, () -> p.term(F, 0, 9));
        due("call 511", 1, () -> p.literal(0, 2, true));
        return p;
    }

    /** An object behind 511 calls that were all refused. */
    private static EqualityProver refusedAllTheTime() {
        EqualityProver p = new EqualityProver(1);
        for (int call = 1; call < CALLS; call += 7) {
            due("call " + call, ARGUMENT, () -> p.term(5, 0, 0));
            due("call " + (call + 1), ARGUMENT, () -> p.literal(0, 2, true));
            due("call " + (call + 2), STATE, () -> p.close());
            due("call " + (call + 3), ARGUMENT, () -> p.follows(2, 0, true));
            due("call " + (call + 4), ARGUMENT, () -> p.label(-1));
            due("call " + (call + 5), ARGUMENT, () -> p.thing(2));
            due("call " + (call + 6), ARGUMENT, () -> p.look(0, 3));
        }
        return p;
    }

    private static void lastCall(Object want, Use call) {
        EqualityProver p = nearItsEnd();
        due("call 512", want, () -> call.of(p));
    }

    private static void lastCallBehindRefusedOnes(Object want, Use call) {
        EqualityProver p = refusedAllTheTime();
        due("call 512 behind refused ones", want, () -> call.of(p));
    }

    private static void fiveHundredAndTwelveCalls() {
        section("\"at most 512 calls\"");
        lastCall(4, p -> p.term(G, 3, 3));
        lastCall(ARGUMENT, p -> p.term(G, 3, 4));
        lastCall(2, p -> p.literal(3, 3, true));
        lastCall(1, p -> p.clause());
        lastCall(2, p -> p.open());
        lastCall(0, p -> p.close());
        lastCall(false, p -> p.contradict());
        lastCall(true, p -> p.follows(0, 1, false));
        lastCall(false, p -> p.follows(0, 1, true));
        lastCall(1, p -> p.label(3));
        lastCall(ARGUMENT, p -> p.label(4));
        lastCall(3, p -> p.thing(3));
        lastCall(4, p -> p.things());
        lastCall(4, p -> p.terms());
        lastCall(1, p -> p.look(3, 1));
        lastCall(1, p -> p.clauses());
        lastCall(1, p -> p.level());

        lastCallBehindRefusedOnes(2, p -> p.term(F, 1, 1));
        lastCallBehindRefusedOnes(1, p -> p.literal(0, 1, true));
        lastCallBehindRefusedOnes(1, p -> p.clause());
        lastCallBehindRefusedOnes(1, p -> p.open());
        lastCallBehindRefusedOnes(false, p -> p.contradict());
        lastCallBehindRefusedOnes(0, p -> p.label(1));
        lastCallBehindRefusedOnes(2, p -> p.terms());
        lastCallBehindRefusedOnes(0, p -> p.level());
    }

    private static void manyRefusedClauses() {
        section("\"at most 512 calls\", clauses that are refused");
        EqualityProver p = new EqualityProver(2);
        int ffx = p.term(F, p.term(F, p.term(X, 0, 0), 0), 0);
        for (int call = 4; call + 4 <= CALLS; call += 2) {
            due("literal of call " + call, 1, () -> p.literal(ffx, ffx, false));
            due("clause of call " + (call + 1), STATE, () -> p.clause());
        }
        due("terms()", 6, () -> p.terms());
        due("things()", 3, () -> p.things());
        due("contradict()", false, () -> p.contradict());
    }

    // ---- Terms

    private static void twentyTerms() {
        for (int n = 1; n <= 4; n++) {
            section("\"at most 20\" terms with " + n + " constants");
            int argument = n - 1;
            EqualityProver p = withTerms(argument, MAX_TERMS - 1);
            due("the 20th term", 19, () -> p.term(Y, 0, 0));
            due("terms()", MAX_TERMS, () -> p.terms());
            due("look(19, 0)", Y, () -> p.look(19, 0));
            due("the 20th as a literal's term", 1, () -> p.literal(19, 19, true));
            due("its clause()", n, () -> p.clause());
            Maker full = () -> withTerms(argument, MAX_TERMS);
            refused("a 21st term X", STATE, full, q -> q.term(X, 0, 0));
            refused("a 21st term Y", STATE, full, q -> q.term(Y, 0, 0));
            refused("a 21st term F(19)", STATE, full, q -> q.term(F, 19, 0));
            refused("a 21st term G(0, 19)", STATE, full, q -> q.term(G, 0, 19));
        }
    }

    private static void constantsByArgument() {
        section("\"1 + (the constructor's argument modulo 4, as 0 .. 3)\"");
        int[][] rows = {{0, 1}, {1, 2}, {2, 3}, {3, 4}, {4, 1}, {5, 2}, {7, 4}, {8, 1},
            {-1, 4}, {-2, 3}, {-3, 2}, {-4, 1}, {-5, 4}, {-7, 2}, {-8, 1}, {-9, 4},
            {Integer.MAX_VALUE, 4}, {Integer.MAX_VALUE - 1, 3}, {Integer.MAX_VALUE - 3, 1},
            {Integer.MIN_VALUE, 1}, {Integer.MIN_VALUE + 1, 2}, {Integer.MIN_VALUE + 3, 4}};
        for (int[] row : rows) {
            EqualityProver p = new EqualityProver(row[0]);
            due("terms() for " + row[0], row[1], () -> p.terms());
            due("the last constant for " + row[0], row[1] - 1, () -> p.look(row[1] - 1, 1));
            due("the first other term for " + row[0], row[1], () -> p.term(X, 0, 0));
        }
    }

    private static void sameTermsHaveOneNumber() {
        section("\"Terms that are the same have one number\"");
        EqualityProver p = new EqualityProver(1);
        due("X", 2, () -> p.term(X, 0, 0));
        due("F(X)", 3, () -> p.term(F, 2, 0));
        due("F(X) again", 3, () -> p.term(F, 2, 1));
        due("G(0, 1)", 4, () -> p.term(G, 0, 1));
        due("G(1, 0) is another", 5, () -> p.term(G, 1, 0));
        due("G(0, 0) is another", 6, () -> p.term(G, 0, 0));
        due("F(0) is another", 7, () -> p.term(F, 0, 0));
        due("G(0, 1) again", 4, () -> p.term(G, 0, 1));
        due("G(1, 0) again", 5, () -> p.term(G, 1, 0));
        due("X again", 2, () -> p.term(X, 5, 6));
        due("Y is another", 8, () -> p.term(Y, 0, 0));
        due("terms()", 9, () -> p.terms());
        p.open();
        due("F(X) != 0", 2, () -> clauseNot(p, 3, 0));
        due("F(0) was there, F(1) is made", 10, () -> p.terms());
        due("F(0)", 7, () -> p.term(F, 0, 0));
        due("F(1)", 9, () -> p.term(F, 1, 0));
        p.close();
        due("F(1) behind close()", 9, () -> p.term(F, 1, 0));
        due("F(F(1))", 10, () -> p.term(F, 9, 0));
        due("F(X) != 0 again", 2, () -> clauseNot(p, 3, 0));
        due("nothing is made", 11, () -> p.terms());
        due("nor is a thing", "0 1 7 9", () -> thingTerms(p));
    }

    private static void fourLiterals() {
        section("\"A CLAUSE is at most four literals\"");
        for (int place = 0; place < 4; place++) {
            EqualityProver p = new EqualityProver(3);
            for (int i = 0; i < 4; i++) {
                int number = i + 1;
                boolean holdsSometimes = i == place;
                due("literal " + number, number, () -> p.literal(2, holdsSometimes ? 3 : 2, holdsSometimes));
            }
            due("clause()", 1, () -> p.clause());
            due("contradict() for literal " + place, false, () -> p.contradict());
            due("follows(2, 3, true) for literal " + place, true, () -> p.follows(2, 3, true));
        }
        EqualityProver p = new EqualityProver(3);
        for (int i = 0; i < 4; i++) {
            p.literal(2, 2, false);
        }
        due("a fifth literal", STATE, () -> p.literal(0, 0, true));
        due("clause() of four literals", 1, () -> p.clause());
        due("the fifth one is not in it", true, () -> p.contradict());
    }

    private static void noLiterals() {
        section("\"one without literals never holds\"");
        EqualityProver p = new EqualityProver(3);
        due("contradict() without clauses", false, () -> p.contradict());
        p.open();
        due("a clause without literals", 1, () -> p.clause());
        due("clauses()", 1, () -> p.clauses());
        due("contradict()", true, () -> p.contradict());
        due("things()", 4, () -> p.things());
        due("0 = 0 beside it", 1, () -> clause(p, 0, 0));
        due("contradict()", true, () -> p.contradict());
        due("close()", 2, () -> p.close());
        due("contradict() behind close()", false, () -> p.contradict());
        due("a clause with one literal", 1, () -> clause(p, 0, 1));
        due("contradict()", false, () -> p.contradict());
    }

    private static void ownInstance() {
        section("\"the others are their own instance\"");
        for (int n = 1; n <= 4; n++) {
            int constants = n;
            EqualityProver p = new EqualityProver(n - 1);
            int x = p.term(X, 0, 0);
            int y = p.term(Y, 0, 0);
            due("0 = 0 with " + n, 1, () -> clause(p, 0, 0));
            due("no literals with " + n, 1, () -> p.clause());
            due("F(0) != G(0, 0) with " + n, 1, () -> clauseNot(p, p.term(F, 0, 0), p.term(G, 0, 0)));
            due("X = 0 with " + n, constants, () -> clause(p, x, 0));
            due("0 = Y with " + n, constants, () -> clause(p, 0, y));
            due("X = X with " + n, constants, () -> clause(p, x, x));
            due("X = Y with " + n, constants * constants, () -> clause(p, x, y));
            due("0 = 0 or 0 = 0 or 0 = 0 or Y = X with " + n, constants * constants,
                    () -> clause(p, 0, 0, 0, 0, 0, 0, y, x));
            due("things()", constants + 2, () -> p.things());
        }
    }

    private static void eightThings() {
        for (int n = 1; n <= 4; n++) {
            section("\"at most 8\" things with " + n + " constants");
            int argument = n - 1;
            Maker bare = () -> withTerms(argument, 10);
            EqualityProver p = bare.make();
            due("a clause up to the 8th thing", 1, () -> clause(p, 7, 7));
            due("things()", MAX_THINGS, () -> p.things());
            due("thing(7)", 7, () -> p.thing(7));
            due("label(7)", 0, () -> p.label(7));
            due("thing(8)", ARGUMENT, () -> p.thing(8));
            due("a clause without new things", 1, () -> clauseNot(p, 7, 0));
            due("contradict()", false, () -> p.contradict());
            refused("9 things at once", STATE, bare, q -> clause(q, 8, 8));
            refused("10 things at once", STATE, bare, q -> clause(q, 0, 0, 9, 0));
            Maker full = () -> {
                EqualityProver q = bare.make();
                clause(q, 7, 7);
                return q;
            };
            refused("a 9th thing", STATE, full, q -> clause(q, 8, 8));
            refused("a 9th thing that is in no other", STATE, full, q -> clauseNot(q, 0, q.term(F, 7, 0)));
        }
        section("\"at most 8\" things, by instances");
        EqualityProver four = new EqualityProver(3);
        int x = four.term(X, 0, 0);
        int fx = four.term(F, x, 0);
        due("F(X) = X with 4 constants", 4, () -> clause(four, fx, x));
        due("things()", "0 1 2 3 6 7 8 9", () -> thingTerms(four));
        due("F(X) = 0 with 4 constants", 4, () -> clause(four, fx, 0));
        Maker three = () -> {
            EqualityProver q = new EqualityProver(2);
            q.term(F, q.term(F, q.term(X, 0, 0), 0), 0);
            return q;
        };
        refused("F(F(X)) != 0 with 3 constants", STATE, three, q -> clauseNot(q, 5, 0));
        EqualityProver p = three.make();
        due("F(X) != 0 with 3 constants", 3, () -> clauseNot(p, 4, 0));
        due("things()", 6, () -> p.things());
    }

    private static void variableNotInTheClause() {
        section("\"a variable that is not in the clause counts as the first one\"");
        EqualityProver p = new EqualityProver(1);
        int x = p.term(X, 0, 0);
        int y = p.term(Y, 0, 0);
        int fy = p.term(F, y, 0);
        due("F(Y) = 0 without X", 2, () -> clause(p, fy, 0));
        due("its things", "0 1 5 6", () -> thingTerms(p));
        due("the first one is F(0)", "1,0,0", () -> shape(p, 5));
        due("the second one is F(1)", "1,1,0", () -> shape(p, 6));
        int gx0 = p.term(G, x, 1);
        due("G(X, 1) = 0 without Y", 2, () -> clause(p, gx0, 0));
        due("its things", "0 1 5 6 8 9", () -> thingTerms(p));
        due("the first one is G(0, 1)", "2,0,1", () -> shape(p, 8));
        due("the second one is G(1, 1)", "2,1,1", () -> shape(p, 9));
        due("0 = 1 behind clauses with variables", 1, () -> clause(p, 0, 1));

        EqualityProver q = new EqualityProver(1);
        int qx = q.term(X, 0, 0);
        for (int i = 0; i < 4; i++) {
            q.literal(0, 1, true);
        }
        due("a fifth literal, with X", STATE, () -> q.literal(qx, 0, true));
        due("it is not in the clause", 1, () -> q.clause());
        due("a literal of no term, with X", ARGUMENT, () -> q.literal(qx, 3, true));
        due("it is not in the clause", 1, () -> clause(q, 0, 1));
    }

    private static void orderOfThings() {
        section("\"for each term what is in it before it (of G the first one first)\"");
        EqualityProver p = new EqualityProver(0);
        int f = p.term(F, 0, 0);
        int g = p.term(G, 0, f);
        int ff = p.term(F, f, 0);
        int fg = p.term(F, g, 0);
        int all = p.term(G, fg, ff);
        due("G(F(G(0, F(0))), F(F(0))) = 0", 1, () -> clause(p, all, 0));
        due("its things", "0 1 2 4 3 5", () -> thingTerms(p));

        EqualityProver q = new EqualityProver(0);
        int qf = q.term(F, 0, 0);
        int qff = q.term(F, qf, 0);
        int qg = q.term(G, 0, 0);
        int right = q.term(G, qg, qff);
        due("G(G(0, 0), F(F(0))) = 0", 1, () -> clause(q, right, 0));
        due("its things", "0 3 1 2 4", () -> thingTerms(q));

        EqualityProver r = new EqualityProver(1);
        int fx = r.term(F, r.term(X, 0, 0), 0);
        int gyy = r.term(G, r.term(Y, 0, 0), r.term(Y, 0, 0));
        due("G(Y, Y) = 0 or F(X) != 1", 4, () -> {
            r.literal(gyy, 0, true);
            return clauseNot(r, fx, 1);
        });
        due("its things", "0 1 6 7 8 9", () -> thingTerms(r));
        due("first G(0, 0)", "2,0,0", () -> shape(r, 6));
        due("then F(0)", "1,0,0", () -> shape(r, 7));
        due("with the next Y G(1, 1)", "2,1,1", () -> shape(r, 8));
        due("with the next X F(1)", "1,1,0", () -> shape(r, 9));
    }

    private static void bothAreThings() {
        section("\"when both are things\"");
        EqualityProver p = new EqualityProver(1);
        int f0 = p.term(F, 0, 0);
        int f1 = p.term(F, 1, 0);
        clause(p, 0, 1);
        due("F(0) != 0 while F(1) is a term alone", 1, () -> clauseNot(p, f0, 0));
        due("contradict()", false, () -> p.contradict());
        due("labels", "002", () -> labels(p));
        due("F(1) = 0 or F(1) = F(0)", 1, () -> clause(p, f1, 0, f1, f0));
        due("now that F(1) is a thing, it is equal to F(0)", true, () -> p.follows(2, 3, true));
        due("labels", "0022", () -> labels(p));
        clause(p, f1, 1);
        due("F(1) = 1 is too much", true, () -> p.contradict());

        EqualityProver g = new EqualityProver(3);
        int g02 = g.term(G, 0, 2);
        int g13 = g.term(G, 1, 3);
        clauseNot(g, g02, g13);
        g.open();
        clause(g, 0, 1);
        due("G of things from one box, and of others from two", false, () -> g.contradict());
        due("so the others are not equal", true, () -> g.follows(2, 3, false));
        clause(g, 2, 3);
        due("G of things from one box, and of others from one", true, () -> g.contradict());
        g.close();
        clause(g, 2, 3);
        due("G of things from two boxes, and of others from one", false, () -> g.contradict());
        due("so the first ones are not equal", true, () -> g.follows(0, 1, false));

        EqualityProver stay = new EqualityProver(1);
        stay.open();
        clause(stay, stay.term(F, 0, 0), stay.term(F, 1, 0));
        stay.close();
        due("F(0), F(1) are things without clauses", false, () -> stay.follows(2, 3, true));
        clause(stay, 0, 1);
        due("they are in one box when 0 and 1 are", true, () -> stay.follows(2, 3, true));
    }

    // ---- Promises 1 to 3

    private static void newObjects() {
        section("Promise 1");
        for (int argument = -9; argument <= 9; argument++) {
            checkNew(argument, 1 + (argument + 12) % 4);
        }
        for (int bit = 2; bit < 32; bit++) {
            checkNew(1 << bit, 1);
            checkNew((1 << bit) + 1, 2);
            checkNew((1 << bit) - 1, 4);
        }
    }

    private static void checkNew(int argument, int constants) {
        StringBuilder shapes = new StringBuilder();
        StringBuilder things = new StringBuilder();
        for (int i = 0; i < constants; i++) {
            shapes.append(" 0,").append(i).append(",0");
            things.append(" ").append(i);
        }
        String zeros = "0".repeat(constants);
        StringBuilder follows = new StringBuilder();
        for (int i = 0; i < constants * constants; i++) {
            follows.append(i % (constants + 1) == 0 ? "=." : "..");
        }
        String want = "terms" + shapes + ", things" + things + ", clauses 0, level 0, contradict false"
                + ", labels " + zeros + ", follows " + follows
                + ", draft 1, clause 1, things" + things + ", labels " + NO_ELEMENT;
        due("new EqualityProver(" + argument + ")", want, () -> everything(new EqualityProver(argument)));
        EqualityProver p = new EqualityProver(argument);
        due("clause() for " + argument, 1, () -> p.clause());
        due("the empty draft never holds for " + argument, true, () -> p.contradict());
    }

    private static void kindsOfTerms() {
        section("\"there is no such kind\"");
        Maker bare = () -> withTerms(1, 3);
        for (int kind : new int[] {0, 5, 6, 8, -1, -2, -3, -4, Integer.MAX_VALUE, Integer.MIN_VALUE}) {
            refused("term(" + kind + ", 0, 0)", ARGUMENT, bare, p -> p.term(kind, 0, 0));
        }
        for (int kind = F; kind <= Y; kind++) {
            int taken = kind;
            EqualityProver p = bare.make();
            due("term(" + kind + ", 0, 0)", 3, () -> p.term(taken, 0, 0));
            due("its kind", taken, () -> p.look(3, 0));
            due("terms()", 4, () -> p.terms());
        }
    }

    private static void argumentsOfNoMatter() {
        section("\"a and b are of no matter for these two, b for F\"");
        int[] numbers = {0, 1, 2, 3, 4, 19, 20, Integer.MAX_VALUE, -1, Integer.MIN_VALUE};
        for (int number : numbers) {
            EqualityProver p = new EqualityProver(1);
            due("X with a " + number, 2, () -> p.term(X, number, 0));
            due("X with b " + number, 2, () -> p.term(X, 0, number));
            due("Y with a " + number, 3, () -> p.term(Y, number, 1));
            due("Y with b " + number, 3, () -> p.term(Y, 1, number));
            due("F(1) with b " + number, 4, () -> p.term(F, 1, number));
            due("F(1)", 4, () -> p.term(F, 1, 0));
            due("terms()", 5, () -> p.terms());
            due("X", "3,0,0", () -> shape(p, 2));
            due("Y", "4,0,0", () -> shape(p, 3));
            due("F(1)", "1,1,0", () -> shape(p, 4));
        }
    }

    private static void partsOfTerms() {
        section("\"(for F and G) a, or (for G) b, is not a term\"");
        for (int count : new int[] {1, 5, MAX_TERMS - 1, MAX_TERMS}) {
            Maker bare = () -> withTerms(0, count);
            for (int bad : outside(count)) {
                String of = " with " + count + " terms";
                refused("F(" + bad + ")" + of, ARGUMENT, bare, p -> p.term(F, bad, 0));
                refused("G(" + bad + ", 0)" + of, ARGUMENT, bare, p -> p.term(G, bad, 0));
                refused("G(0, " + bad + ")" + of, ARGUMENT, bare, p -> p.term(G, 0, bad));
            }
        }
        EqualityProver p = withTerms(0, 5);
        due("F of the last term", 5, () -> p.term(F, 4, 0));
        due("G of the last and the first term", 6, () -> p.term(G, 5, 0));
        due("G of the first and the last term", 7, () -> p.term(G, 0, 6));
        due("F of the term that is just made", 8, () -> p.term(F, 7, 0));
        due("F of the first term is there", 1, () -> p.term(F, 0, 0));
    }

    private static void noRoomForATerm() {
        section("\"it is not there yet, and there are 20\"");
        Maker nearlyFull = () -> {
            EqualityProver p = new EqualityProver(1);
            p.term(X, 0, 0);
            p.term(Y, 0, 0);
            p.term(G, 0, 1);
            while (p.terms() < MAX_TERMS - 1) {
                p.term(F, p.terms() - 1, 0);
            }
            return p;
        };
        EqualityProver p = nearlyFull.make();
        due("G(1, 0) when there are 19", 19, () -> p.term(G, 1, 0));
        due("X when there are 20", 2, () -> p.term(X, 7, 7));
        due("Y when there are 20", 3, () -> p.term(Y, 7, 7));
        due("G(0, 1) when there are 20", 4, () -> p.term(G, 0, 1));
        due("F(17) when there are 20", 18, () -> p.term(F, 17, 0));
        due("G(1, 0) when there are 20", 19, () -> p.term(G, 1, 0));
        due("G(1, 1) when there are 20", STATE, () -> p.term(G, 1, 1));
        due("F(18) when there are 20", STATE, () -> p.term(F, 18, 0));
        due("terms()", 20, () -> p.terms());
        due("look(20, 0)", ARGUMENT, () -> p.look(20, 0));
        due("what was refused is no term", ARGUMENT, () -> p.literal(20, 0, true));
    }

    private static void termsOfLiterals() {
        section("\"s or t is not a term\"");
        for (int count : new int[] {4, 9, MAX_TERMS}) {
            Maker bare = () -> {
                EqualityProver p = withTerms(3, count);
                p.literal(0, 1, false);
                return p;
            };
            for (int bad : outside(count)) {
                String of = " with " + count + " terms";
                refused("literal(" + bad + ", 0, true)" + of, ARGUMENT, bare, p -> p.literal(bad, 0, true));
                refused("literal(0, " + bad + ", false)" + of, ARGUMENT, bare, p -> p.literal(0, bad, false));
            }
            EqualityProver p = bare.make();
            due("literal(" + (count - 1) + ", 0, true)", 2, () -> p.literal(count - 1, 0, true));
            due("literal(0, " + (count - 1) + ", false)", 3, () -> p.literal(0, count - 1, false));
        }
    }

    private static void fullDraft() {
        section("\"there are 4\"");
        Maker full = () -> {
            EqualityProver p = new EqualityProver(2);
            p.term(X, 0, 0);
            p.literal(0, 1, false);
            p.literal(1, 2, false);
            p.literal(0, 2, false);
            p.literal(2, 2, false);
            return p;
        };
        refused("a fifth literal", STATE, full, p -> p.literal(0, 0, true));
        refused("a fifth literal that is there", STATE, full, p -> p.literal(0, 1, false));
        refused("a fifth literal with X", STATE, full, p -> p.literal(3, 0, true));
        EqualityProver p = full.make();
        due("clause() of a full draft", 1, () -> p.clause());
        for (int i = 1; i <= 4; i++) {
            int number = i;
            due("literal " + i + " behind it", number, () -> p.literal(0, 1, true));
        }
        due("literal 5 behind it", STATE, () -> p.literal(0, 1, true));
    }

    // ---- Promise 4

    private static void emptyDraft() {
        section("\"The draft is empty afterwards, also when this throws\"");
        EqualityProver taken = new EqualityProver(1);
        due("a clause that is taken", 1, () -> clauseNot(taken, 0, 1));
        due("literal", 1, () -> taken.literal(0, 1, true));
        due("0 = 1 alone", 1, () -> taken.clause());
        due("contradict()", true, () -> taken.contradict());

        EqualityProver clauses = withClauses(MAX_CLAUSES);
        fill(clauses, 0);
        checkEmptied("17 clauses", clauses);
        EqualityProver things = withTerms(1, 9);
        fill(things, 8);
        checkEmptied("9 things", things);
        EqualityProver terms = withTerms(1, MAX_TERMS - 3);
        int g = terms.term(G, terms.term(X, 0, 0), 1);
        fill(terms, g);
        checkEmptied("21 terms", terms);
    }

    private static EqualityProver withClauses(int count) {
        EqualityProver p = new EqualityProver(1);
        p.open();
        for (int i = 0; i < count; i++) {
            clause(p, 0, 0);
        }
        return p;
    }

    private static void fill(EqualityProver p, int term) {
        for (int i = 0; i < 4; i++) {
            p.literal(0, term, true);
        }
    }

    private static void checkEmptied(String why, EqualityProver p) {
        due(why, STATE, () -> p.clause());
        // The 16 clauses stand on level 1, so that there is room again.
        due("close()", p.level() == 0 ? STATE : MAX_CLAUSES, () -> p.close());
        due("the first literal behind " + why, 1, () -> p.literal(0, 1, false));
        due("the clause of it alone", 1, () -> p.clause());
        due("what it says", true, () -> p.follows(0, 1, false));
        due("a clause of nothing", 1, () -> p.clause());
        due("what it says", true, () -> p.contradict());
    }

    private static void sixteenClauses() {
        section("\"there are 16 clauses\"");
        EqualityProver p = withClauses(MAX_CLAUSES - 1);
        int f = p.term(F, 0, 0);
        due("clauses()", 15, () -> p.clauses());
        due("clause 16", 1, () -> clauseNot(p, 0, f));
        due("clauses()", 16, () -> p.clauses());
        due("clause 16 counts", true, () -> p.follows(0, 2, false));
        Maker full = () -> withClauses(MAX_CLAUSES);
        refused("clause 17", STATE, full, q -> clause(q, 0, 1));
        refused("clause 17 without literals", STATE, full, q -> q.clause());
        refused("clause 17 on a level of its own", STATE, () -> {
            EqualityProver q = full.make();
            q.open();
            return q;
        }, q -> clause(q, 0, 1));
        Maker withNewThing = () -> {
            EqualityProver q = full.make();
            q.term(F, q.term(X, 0, 0), 0);
            return q;
        };
        refused("clause 17 with new terms and things", STATE, withNewThing, q -> clauseNot(q, 3, 0));
        EqualityProver again = withNewThing.make();
        due("close()", 16, () -> again.close());
        due("a clause behind close()", 2, () -> clauseNot(again, 3, 0));
        due("clauses()", 1, () -> again.clauses());
    }

    private static void sixteenClausesOverLevels() {
        section("\"there are 16 clauses\", over all levels");
        EqualityProver p = new EqualityProver(3);
        int x = p.term(X, 0, 0);
        int y = p.term(Y, 0, 0);
        for (int i = 0; i < MAX_CLAUSES; i++) {
            if (i % 4 == 3) {
                p.open();
            }
            due("clause " + (i + 1), 16, () -> clause(p, x, y));
        }
        due("level()", MAX_LEVEL, () -> p.level());
        due("clause 17", STATE, () -> clause(p, x, y));
        due("close() of the one clause of level 4", 1, () -> p.close());
        due("clause 16", 16, () -> clause(p, x, y));
        due("clause 17", STATE, () -> clause(p, x, y));
        due("close() of the five clauses of level 3", 5, () -> p.close());
        due("clauses()", 11, () -> p.clauses());
    }

    /** So many terms, the last ones X and G(X, 0), which a clause makes n new terms of. */
    private static EqualityProver beforeNewTerms(int n, int count) {
        EqualityProver p = withTerms(n - 1, count - 2);
        p.term(G, p.term(X, 0, 0), 0);
        return p;
    }

    private static void twentyTermsByClause() {
        for (int n = 1; n <= 4; n++) {
            section("\"more than 20 terms\" with " + n + " constants");
            int constants = n;
            int count = MAX_TERMS - n;
            EqualityProver p = beforeNewTerms(n, count);
            due("a clause up to the 20th term", constants, () -> clauseNot(p, count - 1, 0));
            due("terms()", MAX_TERMS, () -> p.terms());
            due("things()", 2 * constants, () -> p.things());
            due("the first new term", "2,0,0", () -> shape(p, count));
            due("the last new term", "2," + (constants - 1) + ",0", () -> shape(p, 19));
            due("the last thing", 19, () -> p.thing(2 * constants - 1));
            due("it is there", 19, () -> p.term(G, constants - 1, 0));
            due("the same clause with 20 terms", constants, () -> clauseNot(p, count - 1, 0));
            due("clauses()", 2, () -> p.clauses());
            // With 4 constants all 8 things are there by now.
            due("a clause that makes a thing of an old term", constants == 4 ? STATE : 1,
                    () -> clause(p, constants - 1, constants));
            for (int more = 1; more <= n; more++) {
                int tooMany = count + more;
                refused("a clause that would make " + (MAX_TERMS + more) + " terms", STATE,
                        () -> beforeNewTerms(constants, tooMany), q -> clauseNot(q, tooMany - 1, 0));
            }
        }
    }

    /** So many terms, the last ones X, F(X) and G(0, F(X)): F(1) is there, so a clause makes 3 new ones. */
    private static EqualityProver beforeNewSecondParts(int count) {
        EqualityProver p = withTerms(1, count - 3);
        p.term(G, 0, p.term(F, p.term(X, 0, 0), 0));
        return p;
    }

    private static void whereRoomEnds() {
        section("\"there would be more than 8 things\", wherever the 9th comes");
        Maker bare = () -> withTerms(0, 9);
        refused("a 9th thing on the left", STATE, bare, p -> clause(p, 8, 0));
        refused("a 9th thing on the right", STATE, bare, p -> clause(p, 0, 8));
        refused("a 9th thing in the fourth literal", STATE, bare, p -> clause(p, 0, 0, 0, 0, 0, 0, 0, 8));
        Maker withG = () -> {
            EqualityProver p = bare.make();
            p.term(G, 8, 0);
            p.term(G, 0, 8);
            p.term(G, 7, 7);
            p.term(G, 6, 6);
            return p;
        };
        refused("a 9th thing as the first one of G", STATE, withG, p -> clause(p, 9, 0));
        refused("a 9th thing as the second one of G", STATE, withG, p -> clause(p, 10, 0));
        refused("G as a 9th thing", STATE, withG, p -> clause(p, 11, 0));
        EqualityProver taken = withG.make();
        due("G as the 8th thing", 1, () -> clause(taken, 12, 0));
        due("things", "0 1 2 3 4 5 6 12", () -> thingTerms(taken));

        section("\"more than 20 terms\", wherever the 21st comes");
        EqualityProver p = beforeNewSecondParts(17);
        due("G(0, F(X)) = 0 up to the 20th term", 2, () -> clause(p, 16, 0));
        due("things", "0 1 17 18 2 19", () -> thingTerms(p));
        for (int count = 18; count <= MAX_TERMS; count++) {
            int last = count - 1;
            Maker maker = () -> beforeNewSecondParts(last + 1);
            refused("G(0, F(X)) = 0 with " + count + " terms", STATE, maker, q -> clause(q, last, 0));
            refused("0 = G(0, F(X)) with " + count + " terms", STATE, maker, q -> clause(q, 0, last));
            refused("F(X) != 0 or G(0, F(X)) = 0 with " + count + " terms", STATE, maker, q -> {
                q.literal(last - 1, 0, false);
                return clause(q, last, 0);
            });
        }
    }

    private static void numbersOfNewTerms() {
        section("\"with the next numbers in the order in which they come\"");
        EqualityProver p = new EqualityProver(1);
        int y = p.term(Y, 0, 0);
        int fy = p.term(F, y, 0);
        int g = p.term(G, fy, 1);
        due("G(F(Y), 1) = Y", 2, () -> clause(p, g, y));
        due("F(0)", "1,0,0", () -> shape(p, 5));
        due("G(F(0), 1)", "2,5,1", () -> shape(p, 6));
        due("F(1)", "1,1,0", () -> shape(p, 7));
        due("G(F(1), 1)", "2,7,1", () -> shape(p, 8));
        due("terms()", 9, () -> p.terms());
        due("things", "0 1 5 6 7 8", () -> thingTerms(p));
        due("the next term", 9, () -> p.term(X, 0, 0));

        section("\"none of them are made when this throws\"");
        EqualityProver q = new EqualityProver(2);
        int ffx = q.term(F, q.term(F, q.term(X, 0, 0), 0), 0);
        due("9 things", STATE, () -> clause(q, ffx, 0));
        due("terms()", 6, () -> q.terms());
        due("look(6, 0)", ARGUMENT, () -> q.look(6, 0));
        due("literal(6, 0, true)", ARGUMENT, () -> q.literal(6, 0, true));
        due("thing(3)", ARGUMENT, () -> q.thing(3));
        due("G(1, 2) has the next number", 6, () -> q.term(G, 1, 2));
        due("G(1, 2) != 0", 1, () -> clauseNot(q, 6, 0));
        due("it is the next thing", 6, () -> q.thing(3));
        due("F(F(2))", 8, () -> q.term(F, q.term(F, 2, 0), 0));
        due("labels", "0003", () -> labels(q));
    }

    // ---- Promises 5 and 6

    private static EqualityProver withLevels(int count) {
        EqualityProver p = new EqualityProver(1);
        p.literal(0, 1, true);
        for (int i = 0; i < count; i++) {
            p.open();
        }
        return p;
    }

    private static void fiveLevels() {
        section("\"there are levels 0 .. 4\"");
        EqualityProver p = withLevels(0);
        for (int i = 1; i <= MAX_LEVEL; i++) {
            int number = i;
            due("open() to level " + i, number, () -> p.open());
            due("level()", number, () -> p.level());
        }
        refused("open() at level 4", STATE, () -> withLevels(MAX_LEVEL), q -> q.open());
        due("open() at level 4", STATE, () -> p.open());
        due("close() behind it", 0, () -> p.close());
        due("level()", 3, () -> p.level());
        due("open() again", 4, () -> p.open());
        due("open() at level 4", STATE, () -> p.open());
        for (int i = MAX_LEVEL - 1; i >= 0; i--) {
            int number = i;
            due("close()", 0, () -> p.close());
            due("level()", number, () -> p.level());
        }
        due("the draft stays", 2, () -> p.literal(0, 1, true));
    }

    private static void closedClauses() {
        section("\"nor are its clauses: how many those were\"");
        EqualityProver p = new EqualityProver(3);
        int x = p.term(X, 0, 0);
        int y = p.term(Y, 0, 0);
        clauseNot(p, 2, 3);
        p.open();
        clauseNot(p, 0, 1);
        due("a clause of 16 instances that hold in every world", 16, () -> {
            p.literal(x, y, true);
            return clauseNot(p, x, y);
        });
        due("one of 4 instances that hold in every world", 4, () -> clause(p, x, x));
        p.open();
        p.open();
        clause(p, 2, 1);
        p.open();
        p.clause();
        due("clauses()", 6, () -> p.clauses());
        due("contradict() with level 4", true, () -> p.contradict());
        due("close() of level 4", 1, () -> p.close());
        due("labels with level 3", "0110", () -> labels(p));
        due("close() of level 3", 1, () -> p.close());
        due("labels with level 2", "0101", () -> labels(p));
        due("clauses()", 4, () -> p.clauses());
        due("close() of level 2, without clauses", 0, () -> p.close());
        due("labels with level 1", "0101", () -> labels(p));
        due("close() of level 1", 3, () -> p.close());
        due("labels with level 0", "0003", () -> labels(p));
        due("clauses()", 1, () -> p.clauses());
        p.open();
        due("close() of a level that was there before", 0, () -> p.close());
        due("clauses()", 1, () -> p.clauses());

        EqualityProver q = withClauses(MAX_CLAUSES);
        due("close() of 16 clauses", 16, () -> q.close());
        due("clauses()", 0, () -> q.clauses());
    }

    private static void whatStays() {
        section("\"(The things and terms stay.)\"");
        EqualityProver p = new EqualityProver(3);
        p.open();
        int fx = p.term(F, p.term(X, 0, 0), 0);
        due("F(X) != 0", 4, () -> clauseNot(p, fx, 0));
        due("close()", 1, () -> p.close());
        due("terms()", 10, () -> p.terms());
        due("things", "0 1 2 3 6 7 8 9", () -> thingTerms(p));
        due("term 9 is F(3)", "1,3,0", () -> shape(p, 9));
        due("labels", "00000000", () -> labels(p));
        due("follows(0, 4, false)", false, () -> p.follows(0, 4, false));
        due("there is no room for a thing yet", STATE, () -> clause(p, p.term(F, 9, 0), 0));
        due("0 = 3", 1, () -> clause(p, 0, 3));
        due("F(0) = F(3) follows", true, () -> p.follows(4, 7, true));
        due("F(0) = F(1) does not", false, () -> p.follows(4, 5, true));
    }

    private static void levelZero() {
        section("\"it is level 0\"");
        refused("close() of a new object", STATE, () -> new EqualityProver(3), p -> p.close());
        Maker used = () -> {
            EqualityProver p = withLevels(1);
            p.clause();
            p.close();
            p.term(F, 0, 0);
            clauseNot(p, 0, 2);
            p.literal(1, 2, true);
            return p;
        };
        refused("close() behind open() and close()", STATE, used, p -> p.close());
        EqualityProver p = used.make();
        due("close() at level 0", STATE, () -> p.close());
        due("clauses()", 1, () -> p.clauses());
        due("open()", 1, () -> p.open());
        due("close() at level 1", 0, () -> p.close());
        due("close() at level 0 again", STATE, () -> p.close());
        due("level()", 0, () -> p.level());
    }

    // ---- Promises 7 to 9

    private static EqualityProver withoutClauses() {
        return new EqualityProver(3);
    }

    private static EqualityProver withEmptyClause() {
        EqualityProver p = new EqualityProver(3);
        p.open();
        p.clause();
        return p;
    }

    private static EqualityProver withContradiction() {
        EqualityProver p = new EqualityProver(3);
        p.open();
        clause(p, 1, 2, 1, 3);
        clauseNot(p, 1, 2);
        clauseNot(p, 3, 1);
        return p;
    }

    private static void contradictions() {
        section("Promise 7, no clauses");
        for (int n = 1; n <= 4; n++) {
            EqualityProver p = new EqualityProver(n - 1);
            due("contradict() with " + n + " constants", false, () -> p.contradict());
            p.literal(0, 0, false);
            due("contradict() with a draft alone", false, () -> p.contradict());
        }
        section("Promise 7, a clause without literals");
        EqualityProver empty = withEmptyClause();
        due("contradict()", true, () -> empty.contradict());
        empty.close();
        due("contradict() behind close()", false, () -> empty.contradict());

        section("Promise 7, clauses that contradict one another");
        EqualityProver p = withContradiction();
        due("contradict()", true, () -> p.contradict());
        p.close();
        due("contradict() behind close()", false, () -> p.contradict());
        clause(p, 1, 2, 1, 3);
        clauseNot(p, 1, 2);
        due("contradict() with one clause less", false, () -> p.contradict());
        p.literal(3, 1, false);
        due("contradict() with the last one as a draft", false, () -> p.contradict());
        p.clause();
        due("contradict() with all", true, () -> p.contradict());

        section("Promise 7, the smallest and the largest worlds");
        EqualityProver one = new EqualityProver(0);
        due("0 = 0", 1, () -> clause(one, 0, 0));
        due("contradict()", false, () -> one.contradict());
        due("0 != 0", 1, () -> clauseNot(one, 0, 0));
        due("contradict()", true, () -> one.contradict());
        EqualityProver apart = eightBoxes();
        due("contradict() with 8 boxes", false, () -> apart.contradict());
        due("labels with 8 boxes", "01234567", () -> labels(apart));
        clause(apart, 6, 7);
        due("contradict() with one box too few", true, () -> apart.contradict());
    }

    /** 0, F(0), .., F^7(0), where the last is equal to none, so that no two are equal. */
    private static EqualityProver eightBoxes() {
        EqualityProver p = withTerms(0, MAX_THINGS);
        for (int i = 0; i < MAX_THINGS - 1; i++) {
            clauseNot(p, MAX_THINGS - 1, i);
        }
        return p;
    }

    private static void consequences() {
        section("Promise 8, no clauses");
        EqualityProver none = withoutClauses();
        for (int s = 0; s < 4; s++) {
            for (int t = 0; t < 4; t++) {
                int left = s;
                int right = t;
                due("follows(" + s + ", " + t + ", true)", s == t, () -> none.follows(left, right, true));
                due("follows(" + s + ", " + t + ", false)", false, () -> none.follows(left, right, false));
            }
        }
        section("Promise 8, a clause without literals");
        checkAllFollows(withEmptyClause());
        section("Promise 8, clauses that contradict one another");
        checkAllFollows(withContradiction());

        section("Promise 8, as many instances as there can be");
        EqualityProver full = new EqualityProver(3);
        int y = full.term(Y, 0, 0);
        int fx = full.term(F, full.term(X, 0, 0), 0);
        for (int i = 0; i < MAX_CLAUSES; i++) {
            due("clause " + (i + 1), 16, () -> clause(full, fx, y));
        }
        due("follows(0, 1, true)", true, () -> full.follows(0, 1, true));
        due("follows(7, 6, true)", true, () -> full.follows(7, 6, true));
        due("follows(0, 1, false)", false, () -> full.follows(0, 1, false));
        due("labels", "00000000", () -> labels(full));
    }

    private static void checkAllFollows(EqualityProver p) {
        for (int s = 0; s < 4; s++) {
            for (int t = 0; t < 4; t++) {
                int left = s;
                int right = t;
                due("follows(" + s + ", " + t + ", true)", true, () -> p.follows(left, right, true));
                due("follows(" + s + ", " + t + ", false)", true, () -> p.follows(left, right, false));
            }
        }
        due("follows(4, 0, true)", ARGUMENT, () -> p.follows(4, 0, true));
        p.close();
        due("follows(0, 1, true) behind close()", false, () -> p.follows(0, 1, true));
        due("follows(0, 0, false) behind close()", false, () -> p.follows(0, 0, false));
    }

    /** So many things, up to 8, and more terms than that; F(1), F(0) come as things in this order. */
    private static EqualityProver withThings(int count) {
        EqualityProver p = withTerms(1, 14);
        int f0 = p.term(F, 0, 0);
        p.open();
        if (count >= 4) {
            clauseNot(p, 2, f0);
        }
        if (count >= 5) {
            clauseNot(p, count - 2, 0);
        }
        p.literal(0, 1, true);
        return p;
    }

    private static void numbersOfThings() {
        for (int count : new int[] {2, 4, 5, MAX_THINGS}) {
            Maker bare = () -> withThings(count);
            EqualityProver p = bare.make();
            int last = count - 1;
            section("\"they are not numbers of things (from 0)\", " + count + " things");
            due("follows(last, 0, true)", false, () -> p.follows(last, 0, true));
            due("follows(0, last, true)", false, () -> p.follows(0, last, true));
            due("follows(last, last, true)", true, () -> p.follows(last, last, true));
            due("follows(last, last, false)", false, () -> p.follows(last, last, false));
            due("follows(0, 0, true)", true, () -> p.follows(0, 0, true));
            for (int bad : outside(count)) {
                refused("follows(" + bad + ", 0, true)", ARGUMENT, bare, q -> q.follows(bad, 0, true));
                refused("follows(0, " + bad + ", false)", ARGUMENT, bare, q -> q.follows(0, bad, false));
                refused("follows(" + bad + ", same, true)", ARGUMENT, bare, q -> q.follows(bad, bad, true));
            }
            section("Promise 9, \"there is no such thing\", " + count + " things");
            due("label(0)", 0, () -> p.label(0));
            due("label(last) is a label", true, () -> p.label(last) <= last);
            for (int bad : outside(count)) {
                refused("label(" + bad + ")", ARGUMENT, bare, q -> q.label(bad));
            }
            section("Promise 10, \"there is no such thing\", " + count + " things");
            due("thing(0)", 0, () -> p.thing(0));
            due("thing(1)", 1, () -> p.thing(1));
            int lastTerm = count == 2 ? 1 : count == 4 ? 14 : count - 2;
            due("thing(last)", lastTerm, () -> p.thing(last));
            for (int bad : outside(count)) {
                refused("thing(" + bad + ")", ARGUMENT, bare, q -> q.thing(bad));
            }
            section("Promise 11, " + count + " things");
            due("things()", count, () -> p.things());
        }
    }

    private static void noLeastWorld() {
        section("Promise 9, \"the clauses contradict one another\"");
        for (int thing = 0; thing < 4; thing++) {
            int number = thing;
            refused("label(" + thing + ") with an empty clause", NO_ELEMENT,
                    () -> withEmptyClause(), p -> p.label(number));
            refused("label(" + thing + ") with a contradiction", NO_ELEMENT,
                    () -> withContradiction(), p -> p.label(number));
            EqualityProver p = withContradiction();
            due("label(" + thing + ")", NO_ELEMENT, () -> p.label(number));
            p.close();
            due("label(" + thing + ") behind close()", 0, () -> p.label(number));
        }
        EqualityProver none = withoutClauses();
        due("labels without clauses", "0000", () -> labels(none));
        none.literal(0, 0, false);
        due("labels with a draft that never holds", "0000", () -> labels(none));
        none.clause();
        due("label(0) when it is a clause", NO_ELEMENT, () -> none.label(0));
    }

    private static void leastWorlds() {
        section("Promise 9, the lowest and the highest labels");
        EqualityProver eight = eightBoxes();
        for (int i = 0; i < MAX_THINGS; i++) {
            int number = i;
            due("label(" + i + ") in 8 boxes", number, () -> eight.label(number));
        }
        EqualityProver one = withTerms(0, MAX_THINGS);
        clause(one, 7, 7);
        due("labels in one box", "00000000", () -> labels(one));
        clauseNot(one, 7, 0);
        due("F^7(0) != 0, so F(0) != 0, but F^2(0) = 0 may be", "01010101", () -> labels(one));
        clauseNot(one, 7, 1);
        due("F^7(0) != F(0), so F^2(0) is neither", "01222222", () -> labels(one));
    }

    // ---- Promises 12 to 15

    private static void looks() {
        section("Promise 13, \"0 where it has none; for a constant, 1 is its number\"");
        EqualityProver p = new EqualityProver(3);
        p.term(X, 2, 3);
        p.term(Y, 3, 2);
        p.term(F, 3, 2);
        p.term(G, 3, 2);
        p.term(G, 0, 7);
        String[] shapes = {"0,0,0", "0,1,0", "0,2,0", "0,3,0", "3,0,0", "4,0,0", "1,3,0", "2,3,2", "2,0,7"};
        for (int i = 0; i < shapes.length; i++) {
            int number = i;
            due("the looks of term " + i, shapes[i], () -> shape(p, number));
        }
        section("Promise 13, \"there is no such term or what\"");
        for (int count : new int[] {1, 7, MAX_TERMS}) {
            Maker bare = () -> withTerms(0, count);
            EqualityProver q = bare.make();
            due("look(0, 0) with " + count, 0, () -> q.look(0, 0));
            due("look(last, 0) with " + count, count == 1 ? 0 : F, () -> q.look(count - 1, 0));
            due("look(last, 1) with " + count, count == 1 ? 0 : count - 2, () -> q.look(count - 1, 1));
            due("look(last, 2) with " + count, 0, () -> q.look(count - 1, 2));
            for (int bad : outside(count)) {
                for (int what = 0; what <= 2; what++) {
                    int taken = what;
                    refused("look(" + bad + ", " + what + ") with " + count, ARGUMENT, bare,
                            r -> r.look(bad, taken));
                }
            }
            for (int bad : outside(3)) {
                refused("look(0, " + bad + ") with " + count, ARGUMENT, bare, r -> r.look(0, bad));
                refused("look(last, " + bad + ") with " + count, ARGUMENT, bare, r -> r.look(count - 1, bad));
            }
        }
    }

    private static void countsAtTheirEnds() {
        section("Promises 11, 12, 14, 15 at the lowest numbers");
        EqualityProver low = new EqualityProver(0);
        due("things()", 1, () -> low.things());
        due("terms()", 1, () -> low.terms());
        due("clauses()", 0, () -> low.clauses());
        due("level()", 0, () -> low.level());

        section("Promises 11, 12, 14, 15 at the highest numbers");
        EqualityProver high = withTerms(0, MAX_TERMS);
        clauseNot(high, 7, 0);
        for (int i = 0; i < MAX_LEVEL; i++) {
            high.open();
        }
        while (high.clauses() < MAX_CLAUSES) {
            clause(high, 0, 0);
        }
        checkHighest("", high);
        due("a term too many", STATE, () -> high.term(X, 0, 0));
        checkHighest(" behind term", high);
        due("a literal of no term", ARGUMENT, () -> high.literal(20, 0, true));
        checkHighest(" behind literal", high);
        due("a clause too many", STATE, () -> clause(high, 8, 0));
        checkHighest(" behind clause", high);
        due("a level too many", STATE, () -> high.open());
        checkHighest(" behind open", high);
        due("follows of no thing", ARGUMENT, () -> high.follows(8, 0, true));
        due("label of no thing", ARGUMENT, () -> high.label(8));
        due("thing of no thing", ARGUMENT, () -> high.thing(8));
        due("look of no term", ARGUMENT, () -> high.look(20, 0));
        checkHighest(" behind follows, label, thing and look", high);
        due("close()", 15, () -> high.close());
        due("clauses() behind close()", 1, () -> high.clauses());
        due("level() behind close()", 3, () -> high.level());
        due("a thing too many", STATE, () -> clause(high, 8, 0));
        due("things() behind it", 8, () -> high.things());
        due("terms() behind it", 20, () -> high.terms());
        due("clauses() behind it", 1, () -> high.clauses());
    }

    private static void checkHighest(String when, EqualityProver p) {
        due("things()" + when, MAX_THINGS, () -> p.things());
        due("terms()" + when, MAX_TERMS, () -> p.terms());
        due("clauses()" + when, MAX_CLAUSES, () -> p.clauses());
        due("level()" + when, MAX_LEVEL, () -> p.level());
    }

    public static void main(String[] args) {
        fiveHundredAndTwelveCalls();
        manyRefusedClauses();
        twentyTerms();
        constantsByArgument();
        sameTermsHaveOneNumber();
        fourLiterals();
        noLiterals();
        ownInstance();
        eightThings();
        variableNotInTheClause();
        orderOfThings();
        bothAreThings();
        newObjects();
        kindsOfTerms();
        argumentsOfNoMatter();
        partsOfTerms();
        noRoomForATerm();
        termsOfLiterals();
        fullDraft();
        emptyDraft();
        sixteenClauses();
        sixteenClausesOverLevels();
        twentyTermsByClause();
        whereRoomEnds();
        numbersOfNewTerms();
        fiveLevels();
        closedClauses();
        whatStays();
        levelZero();
        contradictions();
        consequences();
        numbersOfThings();
        noLeastWorld();
        leastWorlds();
        looks();
        countsAtTheirEnds();
        finish();
    }
}
