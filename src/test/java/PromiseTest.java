/** Each promise of the document with ordinary inputs, the edges that it names, and wrong inputs. */
public final class PromiseTest extends Checks {
    private static void newObject() {
        section("Promise 1");
        int[] arguments = {0, 1, 2, 3, 4, 7, -1, -2, -3, -4, -5, Integer.MAX_VALUE, Integer.MIN_VALUE};
        int[] constants = {1, 2, 3, 4, 1, 4, 4, 3, 2, 1, 4, 4, 1};
        for (int i = 0; i < arguments.length; i++) {
            EqualityProver p = new EqualityProver(arguments[i]);
            String made = "after new EqualityProver(" + arguments[i] + ") ";
            due(made + "terms()", constants[i], () -> p.terms());
            due(made + "things()", constants[i], () -> p.things());
            due(made + "clauses()", 0, () -> p.clauses());
            due(made + "level()", 0, () -> p.level());
            due(made + "contradict()", false, () -> p.contradict());
            due(made + "literal(0, 0, true)", 1, () -> p.literal(0, 0, true));
        }
        EqualityProver one = new EqualityProver(0);
        EqualityProver other = new EqualityProver(0);
        one.term(X, 0, 0);
        clauseNot(one, 0, 0);
        due("the other object's terms()", 1, () -> other.terms());
        due("the other object's contradict()", false, () -> other.contradict());
    }

    private static void terms() {
        section("Promise 2");
        EqualityProver p = new EqualityProver(1);
        due("term(F, 0, 77)", 2, () -> p.term(F, 0, 77));
        due("term(F, 0, -5)", 2, () -> p.term(F, 0, -5));
        due("term(G, 0, 1)", 3, () -> p.term(G, 0, 1));
        due("term(G, 1, 0)", 4, () -> p.term(G, 1, 0));
        due("term(G, 0, 1) again", 3, () -> p.term(G, 0, 1));
        due("term(Y, 99, -99)", 5, () -> p.term(Y, 99, -99));
        due("term(X, 3, 4)", 6, () -> p.term(X, 3, 4));
        due("term(X, -1, 50)", 6, () -> p.term(X, -1, 50));
        due("term(Y, 0, 0)", 5, () -> p.term(Y, 0, 0));
        due("term(F, 6, 0)", 7, () -> p.term(F, 6, 0));
        due("term(G, 0, 0)", 8, () -> p.term(G, 0, 0));
        due("term(F, 1, 0)", 9, () -> p.term(F, 1, 0));
        due("terms()", 10, () -> p.terms());
        due("things()", 2, () -> p.things());
        for (int kind : new int[] {0, 5, -1, Integer.MAX_VALUE, Integer.MIN_VALUE}) {
            due("term(" + kind + ", 0, 0)", ARGUMENT, () -> p.term(kind, 0, 0));
        }
        for (int bad : new int[] {-1, 10, 20, Integer.MAX_VALUE, Integer.MIN_VALUE}) {
            due("term(F, " + bad + ", 0)", ARGUMENT, () -> p.term(F, bad, 0));
            due("term(G, " + bad + ", 0)", ARGUMENT, () -> p.term(G, bad, 0));
            due("term(G, 0, " + bad + ")", ARGUMENT, () -> p.term(G, 0, bad));
        }
        due("terms() after wrong calls", 10, () -> p.terms());
        EqualityProver full = withTerms(0, 19);
        due("the 20th term", 19, () -> full.term(Y, 0, 0));
        due("a 21st term X", STATE, () -> full.term(X, 0, 0));
        due("a 21st term F(19)", STATE, () -> full.term(F, 19, 0));
        due("a 21st term G(0, 0)", STATE, () -> full.term(G, 0, 0));
        due("a term that is there", 19, () -> full.term(Y, 0, 0));
        due("a term F that is there", 18, () -> full.term(F, 17, 0));
        due("no such kind with 20 terms", ARGUMENT, () -> full.term(5, 0, 0));
        due("no such term with 20 terms", ARGUMENT, () -> full.term(F, 20, 0));
        due("terms()", 20, () -> full.terms());
    }

    private static void literals() {
        section("Promise 3");
        EqualityProver p = new EqualityProver(1);
        p.term(X, 0, 0);
        for (int bad : new int[] {-1, 3, 20, Integer.MAX_VALUE, Integer.MIN_VALUE}) {
            due("literal(" + bad + ", 0, true)", ARGUMENT, () -> p.literal(bad, 0, true));
            due("literal(0, " + bad + ", false)", ARGUMENT, () -> p.literal(0, bad, false));
        }
        due("the first literal", 1, () -> p.literal(0, 1, true));
        due("the same literal", 2, () -> p.literal(0, 1, true));
        due("the third literal", 3, () -> p.literal(2, 2, false));
        due("the fourth literal", 4, () -> p.literal(2, 1, true));
        due("the fifth literal", STATE, () -> p.literal(0, 1, true));
        due("a wrong fifth literal", ARGUMENT, () -> p.literal(0, 3, true));
        due("things() with a draft", 2, () -> p.things());
        due("contradict() with a draft", false, () -> p.contradict());
        due("clause()", 2, () -> p.clause());
        due("the next draft's first literal", 1, () -> p.literal(0, 1, true));
    }

    private static void instanceCounts() {
        section("Promise 4, instances");
        for (int constants = 1; constants <= 4; constants++) {
            int n = constants;
            EqualityProver p = new EqualityProver(n - 1);
            int x = p.term(X, 0, 0);
            int y = p.term(Y, 0, 0);
            p.literal(x, 0, true);
            due("a clause with X and " + n + " constants", n, () -> p.clause());
            p.literal(0, y, true);
            due("a clause with Y and " + n + " constants", n, () -> p.clause());
            p.literal(0, 0, true);
            p.literal(y, 0, true);
            p.literal(0, x, true);
            due("a clause with X and Y and " + n + " constants", n * n, () -> p.clause());
            p.literal(0, 0, true);
            due("a clause without variables", 1, () -> p.clause());
            due("a clause without literals", 1, () -> p.clause());
            due("clauses()", 5, () -> p.clauses());
        }
        EqualityProver deep = new EqualityProver(1);
        int y = deep.term(Y, 0, 0);
        int fy = deep.term(F, y, 0);
        deep.literal(0, deep.term(G, fy, fy), true);
        due("a clause with Y deep inside", 2, () -> deep.clause());
        due("its things()", 6, () -> deep.things());
    }

    private static void orderOfThings() {
        section("Promise 4, order");
        EqualityProver p = new EqualityProver(1);
        int x = p.term(X, 0, 0);
        int y = p.term(Y, 0, 0);
        int gyx = p.term(G, y, x);
        p.literal(gyx, 0, true);
        due("clause() of G(Y, X) = 0", 4, () -> p.clause());
        due("things", "0 1 5 6 7 8", () -> thingTerms(p));
        due("the first new term is G(0, 0)", "2,0,0", () -> shape(p, 5));
        due("X goes slower than Y, so G(1, 0) is next", "2,1,0", () -> shape(p, 6));
        due("then G(0, 1)", "2,0,1", () -> shape(p, 7));
        due("then G(1, 1)", "2,1,1", () -> shape(p, 8));

        EqualityProver q = new EqualityProver(0);
        int f = q.term(F, 0, 0);
        int ff = q.term(F, f, 0);
        int g = q.term(G, ff, f);
        int gg = q.term(G, 0, 0);
        q.literal(gg, g, true);
        due("clause() of ground terms", 1, () -> q.clause());
        due("left before right, and what is in a term before it", "0 4 1 2 3", () -> thingTerms(q));
        due("terms()", 5, () -> q.terms());

        EqualityProver r = new EqualityProver(1);
        int f0 = r.term(F, 0, 0);
        int f1 = r.term(F, 1, 0);
        int g10 = r.term(G, f1, f0);
        r.literal(0, 1, true);
        r.literal(g10, 0, false);
        r.clause();
        due("of G the first one first", "0 1 3 2 4", () -> thingTerms(r));

        EqualityProver s = new EqualityProver(1);
        int sx = s.term(X, 0, 0);
        int fx = s.term(F, sx, 0);
        int ffx = s.term(F, fx, 0);
        int already = s.term(F, 1, 0);
        s.literal(ffx, 0, true);
        due("clause() of F(F(X)) = 0", 2, () -> s.clause());
        due("a term that is there keeps its number", "0 1 6 7 5 8", () -> thingTerms(s));
        due("term 5 is F(1)", already, () -> s.term(F, 1, 0));
        due("term 6 is F(0)", "1,0,0", () -> shape(s, 6));
        due("term 7 is F(F(0))", "1,6,0", () -> shape(s, 7));
        due("term 8 is F(F(1))", "1,5,0", () -> shape(s, 8));
    }

    private static void clauseLimits() {
        section("Promise 4, limits");
        EqualityProver p = new EqualityProver(0);
        for (int i = 0; i < 16; i++) {
            p.literal(0, 0, true);
            due("clause " + (i + 1), 1, () -> p.clause());
        }
        int f = p.term(F, 0, 0);
        p.literal(f, 0, true);
        due("clause 17", STATE, () -> p.clause());
        due("clauses()", 16, () -> p.clauses());
        due("things() after clause 17", 1, () -> p.things());
        due("the draft is empty then", 1, () -> p.literal(0, 0, true));

        EqualityProver q = withTerms(0, 9);
        q.literal(0, 0, true);
        q.literal(8, 0, false);
        due("9 things", STATE, () -> q.clause());
        due("things()", 1, () -> q.things());
        due("clauses()", 0, () -> q.clauses());
        due("the draft is empty then", 1, () -> q.literal(7, 7, true));
        due("8 things", 1, () -> q.clause());
        due("things()", "0 1 2 3 4 5 6 7", () -> thingTerms(q));

        EqualityProver r = withTerms(1, 17);
        int x = r.term(X, 0, 0);
        int g = r.term(G, x, 0);
        r.literal(g, 0, true);
        due("21 terms", STATE, () -> r.clause());
        due("terms() when none are made", 19, () -> r.terms());
        due("things() when none are made", 2, () -> r.things());
        due("thing(2) when none are made", ARGUMENT, () -> r.thing(2));
        due("contradict()", false, () -> r.contradict());
        due("the next term's number", 19, () -> r.term(G, 0, 0));
        r.literal(g, 0, true);
        due("21 terms again", STATE, () -> r.clause());
        due("terms()", 20, () -> r.terms());

        EqualityProver half = new EqualityProver(1);
        half.term(F, 0, 0);
        while (half.terms() < 18) {
            half.term(F, half.terms() - 1, 0);
        }
        int halfFx = half.term(F, half.term(X, 0, 0), 0);
        half.literal(halfFx, halfFx, false);
        due("no room for the second instance", STATE, () -> half.clause());
        due("contradict() when the first instance is not kept", false, () -> half.contradict());
        due("things()", 2, () -> half.things());

        EqualityProver s = withTerms(0, 18);
        int sx = s.term(X, 0, 0);
        int fx = s.term(F, sx, 0);
        s.literal(fx, 0, false);
        due("20 terms, all there", 1, () -> s.clause());
        due("follows(0, 1, false)", true, () -> s.follows(0, 1, false));

        EqualityProver wide = new EqualityProver(0);
        int top = 0;
        for (int i = 0; i < 7; i++) {
            top = wide.term(G, top, top);
        }
        wide.literal(top, 0, false);
        due("G of G of G .. with 8 things", 1, () -> wide.clause());
        for (int i = 0; i < 12; i++) {
            top = wide.term(G, top, top);
        }
        wide.literal(top, top, true);
        due("G of G of G .. with 20 things", STATE, () -> wide.clause());
        due("things()", 8, () -> wide.things());
    }

    private static void levels() {
        section("Promise 5");
        EqualityProver p = new EqualityProver(1);
        p.literal(0, 1, true);
        for (int i = 1; i <= 4; i++) {
            due("open()", i, () -> p.open());
            due("level()", i, () -> p.level());
        }
        due("a fifth open()", STATE, () -> p.open());
        due("level()", 4, () -> p.level());
        due("the draft stays", 2, () -> p.literal(0, 1, true));

        section("Promise 6");
        EqualityProver q = new EqualityProver(1);
        due("close() at level 0", STATE, () -> q.close());
        int f0 = q.term(F, 0, 0);
        clause(q, 0, 1);
        due("close() at level 0 with a clause", STATE, () -> q.close());
        due("clauses()", 1, () -> q.clauses());
        q.open();
        clauseNot(q, 0, f0);
        q.open();
        q.open();
        clause(q, 0, 1);
        clauseNot(q, 0, 1);
        due("contradict()", true, () -> q.contradict());
        q.literal(0, 1, true);
        due("close()", 2, () -> q.close());
        due("the draft stays", 2, () -> q.literal(0, 1, true));
        due("level()", 2, () -> q.level());
        due("clauses()", 2, () -> q.clauses());
        due("contradict()", false, () -> q.contradict());
        due("labels", "002", () -> labels(q));
        due("close() of a level without clauses", 0, () -> q.close());
        due("close()", 1, () -> q.close());
        due("labels", "000", () -> labels(q));
        due("follows(0, 1, true)", true, () -> q.follows(0, 1, true));
        due("level()", 0, () -> q.level());
        due("things() stay", 3, () -> q.things());
        due("terms() stay", 3, () -> q.terms());
        due("close()", STATE, () -> q.close());
        due("open() again", 1, () -> q.open());
        q.clause();
        due("close()", 1, () -> q.close());
        due("the clause of level 0 is there", 1, () -> q.clauses());

        EqualityProver full = new EqualityProver(0);
        full.open();
        for (int i = 0; i < 16; i++) {
            full.clause();
        }
        due("clause 17", STATE, () -> full.clause());
        due("close() of 16", 16, () -> full.close());
        due("a clause after close()", 1, () -> full.clause());
    }

    /** Each literal of a clause follows once the three others do not hold, wherever it stands in it. */
    private static void literalsOfOneClause(boolean claim) {
        section("Terms, a clause holds when one of its literals does");
        int[][] pairs = {{0, 1}, {1, 2}, {2, 3}, {0, 4}};
        for (int turn = 0; turn < 4; turn++) {
            for (int left = 0; left < 4; left++) {
                EqualityProver p = new EqualityProver(3);
                p.term(F, 0, 0);
                for (int i = 0; i < 4; i++) {
                    int[] pair = pairs[(i + turn) % 4];
                    p.literal(pair[0], pair[1], (pair[1] != 4) == claim);
                }
                due("clause()", 1, () -> p.clause());
                int[] last = pairs[left];
                boolean lastClaim = (last[1] != 4) == claim;
                due("it follows not by itself", false, () -> p.follows(last[0], last[1], lastClaim));
                for (int i = 0; i < 4; i++) {
                    if (i != left) {
                        p.literal(pairs[i][0], pairs[i][1], (pairs[i][1] != 4) != claim);
                        p.clause();
                    }
                }
                due("contradict()", false, () -> p.contradict());
                due("the last one follows", true, () -> p.follows(last[0], last[1], lastClaim));
                p.literal(last[0], last[1], !lastClaim);
                p.clause();
                due("contradict() when none holds", true, () -> p.contradict());
            }
        }
    }

    private static void contradictions() {
        section("Promise 7");
        EqualityProver empty = new EqualityProver(0);
        due("without clauses", false, () -> empty.contradict());
        empty.clause();
        due("with a clause without literals", true, () -> empty.contradict());

        EqualityProver self = new EqualityProver(0);
        clauseNot(self, 0, 0);
        due("with 0 != 0", true, () -> self.contradict());

        EqualityProver chain = new EqualityProver(2);
        clause(chain, 0, 1);
        clause(chain, 1, 2);
        due("0 = 1, 1 = 2", false, () -> chain.contradict());
        clauseNot(chain, 2, 0);
        due("0 = 1, 1 = 2, 2 != 0", true, () -> chain.contradict());

        EqualityProver f = new EqualityProver(1);
        clauseNot(f, f.term(F, 0, 0), f.term(F, 1, 0));
        due("F(0) != F(1)", false, () -> f.contradict());
        clause(f, 0, 1);
        due("F(0) != F(1), 0 = 1", true, () -> f.contradict());

        EqualityProver g = new EqualityProver(2);
        clauseNot(g, g.term(G, 0, 1), g.term(G, 1, 2));
        clause(g, 0, 1);
        due("G(0, 1) != G(1, 2), 0 = 1", false, () -> g.contradict());
        clause(g, 1, 2);
        due("G(0, 1) != G(1, 2), 0 = 1 = 2", true, () -> g.contradict());

        EqualityProver mixed = new EqualityProver(0);
        clauseNot(mixed, mixed.term(F, 0, 0), mixed.term(G, 0, 0));
        due("F(0) != G(0, 0)", false, () -> mixed.contradict());

        EqualityProver cycle = withTerms(0, 6);
        clause(cycle, 0, 3);
        clause(cycle, 0, 5);
        due("F^3(0) = 0, F^5(0) = 0", false, () -> cycle.contradict());
        clauseNot(cycle, 0, 1);
        due("F^3(0) = 0, F^5(0) = 0, F(0) != 0", true, () -> cycle.contradict());

        EqualityProver boxes = new EqualityProver(3);
        int x = boxes.term(X, 0, 0);
        boxes.literal(x, 0, true);
        boxes.literal(x, 1, true);
        boxes.clause();
        clauseNot(boxes, 2, 3);
        due("two boxes for 4 constants", false, () -> boxes.contradict());
        clauseNot(boxes, 1, 3);
        clauseNot(boxes, 1, 2);
        due("two boxes for three unequal ones", true, () -> boxes.contradict());
    }

    private static void consequences() {
        section("Promise 8");
        EqualityProver p = new EqualityProver(3);
        due("follows(1, 1, true)", true, () -> p.follows(1, 1, true));
        due("follows(1, 1, false)", false, () -> p.follows(1, 1, false));
        due("follows(0, 1, true)", false, () -> p.follows(0, 1, true));
        due("follows(0, 1, false)", false, () -> p.follows(0, 1, false));
        clause(p, 0, 1, 2, 3);
        due("follows(2, 3, true) from 0 = 1 or 2 = 3", false, () -> p.follows(2, 3, true));
        clauseNot(p, 0, 1);
        due("follows(2, 3, true)", true, () -> p.follows(2, 3, true));
        due("follows(3, 2, true)", true, () -> p.follows(3, 2, true));
        due("follows(2, 3, false)", false, () -> p.follows(2, 3, false));
        due("follows(1, 0, false)", true, () -> p.follows(1, 0, false));
        due("follows(0, 2, false)", false, () -> p.follows(0, 2, false));
        due("asking changes nothing", 2, () -> p.clauses());
        due("asking changes nothing", false, () -> p.contradict());
        for (int bad : new int[] {-1, 4, 8, Integer.MAX_VALUE, Integer.MIN_VALUE}) {
            due("follows(" + bad + ", 0, true)", ARGUMENT, () -> p.follows(bad, 0, true));
            due("follows(0, " + bad + ", false)", ARGUMENT, () -> p.follows(0, bad, false));
        }
        p.term(F, 0, 0);
        due("a term that is no thing", ARGUMENT, () -> p.follows(0, 4, true));
        p.clause();
        for (int s = 0; s < 4; s++) {
            int left = s;
            due("all equal in no world", true, () -> p.follows(left, 3, true));
            due("all unequal in no world", true, () -> p.follows(left, 3, false));
        }
        due("no such thing in no world", ARGUMENT, () -> p.follows(0, 4, true));

        EqualityProver order = new EqualityProver(1);
        int f1 = order.term(F, 1, 0);
        int f0 = order.term(F, 0, 0);
        int g = order.term(G, f0, f1);
        clauseNot(order, g, 0);
        due("numbers are those of things, 0 != G", true, () -> order.follows(4, 0, false));
        due("things", "0 1 3 2 4", () -> thingTerms(order));
        clause(order, 1, f0);
        due("thing 2 is F(0)", true, () -> order.follows(1, 2, true));
        due("thing 3 is F(1)", false, () -> order.follows(1, 3, true));
    }

    private static void leastWorlds() {
        section("Promise 9");
        EqualityProver p = new EqualityProver(3);
        due("labels without clauses", "0000", () -> labels(p));
        p.open();
        clauseNot(p, 1, 2);
        due("labels for 1 != 2", "0020", () -> labels(p));
        clauseNot(p, 3, 0);
        due("labels for 1 != 2, 3 != 0", "0022", () -> labels(p));
        clauseNot(p, 2, 3);
        due("labels for 1 != 2, 3 != 0, 2 != 3", "0023", () -> labels(p));
        p.close();
        p.open();
        p.literal(0, 1, false);
        p.literal(2, 3, false);
        p.clause();
        due("thing 1 comes before thing 3", "0003", () -> labels(p));
        clauseNot(p, 0, 1);
        clauseNot(p, 0, 2);
        due("a label other than 0", "0110", () -> labels(p));
        for (int bad : new int[] {-1, 4, 8, Integer.MAX_VALUE, Integer.MIN_VALUE}) {
            due("label(" + bad + ")", ARGUMENT, () -> p.label(bad));
        }
        p.clause();
        due("label(0) in no world", NO_ELEMENT, () -> p.label(0));
        due("label(3) in no world", NO_ELEMENT, () -> p.label(3));
        due("label(4) in no world", ARGUMENT, () -> p.label(4));
        due("label(-1) in no world", ARGUMENT, () -> p.label(-1));
        p.close();
        due("labels after close()", "0000", () -> labels(p));

        EqualityProver f = new EqualityProver(1);
        clauseNot(f, f.term(F, 0, 0), f.term(F, 1, 0));
        due("labels for F(0) != F(1)", "0101", () -> labels(f));

        EqualityProver g = new EqualityProver(1);
        int g01 = g.term(G, 0, 1);
        int g10 = g.term(G, 1, 0);
        clauseNot(g, g01, g10);
        due("labels for G(0, 1) != G(1, 0)", "0101", () -> labels(g));

        EqualityProver kept = new EqualityProver(1);
        kept.open();
        int kf0 = kept.term(F, 0, 0);
        int kf1 = kept.term(F, 1, 0);
        clause(kept, kf0, kf1);
        kept.close();
        clause(kept, 0, 1);
        due("things that stay are in boxes by their parts", true, () -> kept.follows(2, 3, true));

        EqualityProver eight = withTerms(0, 8);
        int x = eight.term(X, 0, 0);
        for (int i = 1; i < 8; i++) {
            clauseNot(eight, i, 0);
        }
        due("labels of 8 things", "01111111", () -> labels(eight));
        clauseNot(eight, 6, 7);
        due("labels with F^6(0) != F^7(0)", "01212121", () -> labels(eight));
        clause(eight, x, 7);
        due("labels with F^7(0) = 0", NO_ELEMENT, () -> labels(eight));

        EqualityProver apart = withTerms(0, 8);
        for (int i = 0; i < 7; i++) {
            clauseNot(apart, 7, i);
        }
        due("8 things in 8 boxes", "01234567", () -> labels(apart));
        due("follows(5, 6, false)", true, () -> apart.follows(5, 6, false));
    }

    private static void readings() {
        section("Promise 10");
        EqualityProver p = new EqualityProver(2);
        int x = p.term(X, 0, 0);
        int g = p.term(G, 1, 2);
        due("thing(0)", 0, () -> p.thing(0));
        due("thing(2)", 2, () -> p.thing(2));
        due("thing(3)", ARGUMENT, () -> p.thing(3));
        clause(p, g, 0);
        due("thing(3)", g, () -> p.thing(3));
        for (int bad : new int[] {-1, 4, 8, Integer.MAX_VALUE, Integer.MIN_VALUE}) {
            due("thing(" + bad + ")", ARGUMENT, () -> p.thing(bad));
        }

        section("Promise 11");
        due("things()", 4, () -> p.things());
        clause(p, x, x);
        due("things() after a clause without new ones", 4, () -> p.things());
        int fx = p.term(F, x, 0);
        p.literal(fx, x, true);
        due("things() with a draft", 4, () -> p.things());
        p.clause();
        due("things() after F(X) = X", 7, () -> p.things());

        section("Promise 12");
        due("terms()", 9, () -> p.terms());
        p.term(Y, 0, 0);
        due("terms() after Y", 10, () -> p.terms());
        p.term(Y, 1, 1);
        due("terms() after Y again", 10, () -> p.terms());

        section("Promise 13");
        due("constant 0", "0,0,0", () -> shape(p, 0));
        due("constant 2", "0,2,0", () -> shape(p, 2));
        due("X", "3,0,0", () -> shape(p, x));
        due("G(1, 2)", "2,1,2", () -> shape(p, g));
        due("F(X)", "1,3,0", () -> shape(p, fx));
        due("F(0), made by a clause", "1,0,0", () -> shape(p, 6));
        due("Y", "4,0,0", () -> shape(p, 9));
        int odd = p.term(F, 2, 7);
        due("F with a b", "1,2,0", () -> shape(p, odd));
        EqualityProver variables = new EqualityProver(3);
        int vx = variables.term(X, 2, 3);
        int vy = variables.term(Y, 3, 2);
        due("X with a and b", "3,0,0", () -> shape(variables, vx));
        due("Y with a and b", "4,0,0", () -> shape(variables, vy));
        for (int bad : new int[] {-1, 10, 20, Integer.MAX_VALUE, Integer.MIN_VALUE}) {
            due("look(" + bad + ", 0)", ARGUMENT, () -> p.look(bad, 0));
        }
        for (int bad : new int[] {-1, 3, Integer.MAX_VALUE, Integer.MIN_VALUE}) {
            due("look(0, " + bad + ")", ARGUMENT, () -> p.look(0, bad));
        }

        section("Promise 14");
        due("clauses()", 3, () -> p.clauses());
        p.open();
        p.clause();
        due("clauses() of all levels", 4, () -> p.clauses());
        p.close();
        due("clauses() after close()", 3, () -> p.clauses());
        p.literal(0, 0, true);
        due("clauses() with a draft", 3, () -> p.clauses());

        section("Promise 15");
        due("level()", 0, () -> p.level());
        p.open();
        p.open();
        due("level() after open(), open()", 2, () -> p.level());
        p.close();
        due("level() after close()", 1, () -> p.level());
    }

    public static void main(String[] args) {
        newObject();
        terms();
        literals();
        instanceCounts();
        orderOfThings();
        clauseLimits();
        levels();
        literalsOfOneClause(true);
        literalsOfOneClause(false);
        contradictions();
        consequences();
        leastWorlds();
        readings();
        finish();
    }
}
