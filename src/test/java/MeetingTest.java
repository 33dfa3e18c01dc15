/**
 * Where several promises meet: levels and clauses, things that stay and clauses that go, clauses that
 * are refused between others, terms that later clauses bring in, and boxes of F and G.
 */
public final class MeetingTest extends Checks {
    private static int threeLiterals(EqualityProver p, int s, int t, int u, int v, int w, int z) {
        p.literal(s, t, true);
        p.literal(u, v, true);
        p.literal(w, z, false);
        return p.clause();
    }

    // ---- clauses taken on several levels

    private static void groundClausesOnLevels() {
        section("ground clauses on levels 0 .. 4");
        EqualityProver p = new EqualityProver(3);
        clause(p, 0, 1, 0, 2);
        due("labels for 0 = 1 or 0 = 2", "0000", () -> labels(p));
        p.open();
        clauseNot(p, 0, 1);
        due("labels with 0 != 1", "0100", () -> labels(p));
        p.open();
        clauseNot(p, 2, 3);
        due("labels with 2 != 3", "0101", () -> labels(p));
        p.open();
        clauseNot(p, 3, 1);
        due("labels with 3 != 1", "0103", () -> labels(p));
        p.open();
        clause(p, 3, 0);
        due("contradict() with 3 = 0", true, () -> p.contradict());
        due("close() of level 4", 1, () -> p.close());
        due("labels without 3 = 0", "0103", () -> labels(p));
        due("close() of level 3", 1, () -> p.close());
        due("labels without 3 != 1", "0101", () -> labels(p));
        clause(p, 3, 1);
        due("3 = 1 as a second clause of level 2", true, () -> p.follows(3, 1, true));
        due("open() of level 3 again", 3, () -> p.open());
        clauseNot(p, 3, 1);
        due("contradict() with 3 != 1", true, () -> p.contradict());
        due("close() of level 3 again", 1, () -> p.close());
        due("3 = 1 is there yet", true, () -> p.follows(1, 3, true));
        due("close() of level 2", 2, () -> p.close());
        due("labels of level 1", "0100", () -> labels(p));
        due("0 = 2 follows on level 1", true, () -> p.follows(0, 2, true));
        due("close() of level 1", 1, () -> p.close());
        due("labels of level 0", "0000", () -> labels(p));
        due("0 = 2 follows no more", false, () -> p.follows(0, 2, true));
        due("clauses()", 1, () -> p.clauses());
    }

    private static void openClausesOnLevels() {
        section("clauses with variables on levels 0 .. 2");
        EqualityProver p = new EqualityProver(1);
        int x = p.term(X, 0, 0);
        int fx = p.term(F, x, 0);
        int ffx = p.term(F, fx, 0);
        due("F(X) != X", 2, () -> clauseNot(p, fx, x));
        due("labels of 0, 1, F(0), F(1)", "0022", () -> labels(p));
        p.open();
        clauseNot(p, 0, 1);
        due("labels with 0 != 1", "0110", () -> labels(p));
        p.open();
        due("F(F(X)) != X", 2, () -> clauseNot(p, ffx, x));
        due("labels, F(F(0)) and F(F(1)) behind the others", "011330", () -> labels(p));
        due("F(1) != 1 follows", true, () -> p.follows(3, 1, false));
        due("F(1) != 0 does not, though it is so in the least world", false, () -> p.follows(3, 0, false));
        due("close() of level 2", 1, () -> p.close());
        due("labels, F(F(0)) and F(F(1)) as F says", "011001", () -> labels(p));
        due("close() of level 1", 1, () -> p.close());
        due("labels of level 0, with the things that stay", "002200", () -> labels(p));
        due("F(0) = F(1) follows not", false, () -> p.follows(2, 3, true));
        due("F(0) != 0 follows", true, () -> p.follows(2, 0, false));
        due("F(F(0)) != 0 follows no more", false, () -> p.follows(4, 0, false));
    }

    private static void manyInstancesOnLevels() {
        section("clauses of 16 instances on each level");
        EqualityProver p = new EqualityProver(3);
        int x = p.term(X, 0, 0);
        int y = p.term(Y, 0, 0);
        clauseNot(p, 0, 3);
        for (int level = 1; level <= 4; level++) {
            p.open();
            // With Y being 3 it says that each constant is equal to 3 or to this level's one.
            int constant = level - 1;
            due("a clause on level " + level, 16, () -> threeLiterals(p, x, y, x, constant, y, 3));
        }
        due("contradict() with levels 1 .. 4", true, () -> p.contradict());
        due("close() of level 4", 1, () -> p.close());
        due("0, 1 and 2 in one box", "0003", () -> labels(p));
        due("0 = 2 follows", true, () -> p.follows(0, 2, true));
        p.close();
        p.close();
        due("X = 0 or X = 3 on level 1 alone", "0003", () -> labels(p));
        due("1 = 2 follows not: one may be 3", false, () -> p.follows(1, 2, true));
        clauseNot(p, 1, 0);
        due("1 = 3 follows from 1 != 0", true, () -> p.follows(1, 3, true));
        p.close();
        due("nothing but 0 != 3", "0003", () -> labels(p));
        due("1 = 3 follows no more", false, () -> p.follows(1, 3, true));
        due("1 != 0 follows no more", false, () -> p.follows(1, 0, false));
    }

    // ---- levels closed and opened again

    private static void reopenedLevel() {
        section("a level that is closed and opened again");
        EqualityProver p = new EqualityProver(1);
        int x = p.term(X, 0, 0);
        int fx = p.term(F, x, 0);
        for (int round = 0; round < 5; round++) {
            due("open()", 1, () -> p.open());
            due("F(X) != X", 2, () -> clauseNot(p, fx, x));
            due("terms()", 6, () -> p.terms());
            due("things", "0 1 4 5", () -> thingTerms(p));
            due("labels", "0022", () -> labels(p));
            due("close()", 1, () -> p.close());
            due("labels of things that stay", "0000", () -> labels(p));
            due("F(0) has its number", 4, () -> p.term(F, 0, 0));
            due("clauses()", 0, () -> p.clauses());
        }
        due("a literal of a term that stays", 1, () -> p.literal(5, 4, false));
        due("F(1) != F(0)", 1, () -> p.clause());
        due("0 != 1 follows", true, () -> p.follows(0, 1, false));
        due("things", "0 1 4 5", () -> thingTerms(p));
    }

    private static void roomThatStaysTaken() {
        section("things that stay take room");
        EqualityProver things = withTerms(3, 9);
        things.open();
        clauseNot(things, 7, 0);
        due("close()", 1, () -> things.close());
        due("a 9th thing without clauses", STATE, () -> clause(things, 8, 8));
        due("the 8 things", "0 1 2 3 4 5 6 7", () -> thingTerms(things));
        things.open();
        due("a 9th thing on a new level", STATE, () -> clause(things, 8, 8));
        due("close() of no clause", 0, () -> things.close());
        due("a clause of the things that stay", 1, () -> clause(things, 3, 5));
        due("F(3) = F(5) follows", true, () -> things.follows(4, 6, true));

        section("terms that stay take room");
        EqualityProver terms = withTerms(1, 16);
        int gx = terms.term(G, terms.term(X, 0, 0), 0);
        terms.open();
        due("G(X, 0) = 0 makes the last two terms", 2, () -> clause(terms, gx, 0));
        due("close()", 1, () -> terms.close());
        due("a 21st term", STATE, () -> terms.term(Y, 0, 0));
        due("G(1, 0) stays", 19, () -> terms.term(G, 1, 0));
        due("G(X, 0) != 0 makes none", 2, () -> clauseNot(terms, gx, 0));
        due("things", "0 1 18 19", () -> thingTerms(terms));
        due("labels", "0022", () -> labels(terms));
    }

    private static void levelsAboveClosedOnes() {
        section("a level opened above one that was closed");
        EqualityProver p = new EqualityProver(2);
        p.open();
        clauseNot(p, 0, 1);
        clauseNot(p, 0, 2);
        p.open();
        clauseNot(p, 1, 2);
        due("labels", "012", () -> labels(p));
        due("close() of level 2", 1, () -> p.close());
        due("close() of level 1", 2, () -> p.close());
        clause(p, 1, 2);
        p.open();
        p.open();
        due("level()", 2, () -> p.level());
        clauseNot(p, 0, 1);
        due("labels", "011", () -> labels(p));
        due("close() of level 2", 1, () -> p.close());
        due("labels", "000", () -> labels(p));
        due("close() of level 1", 0, () -> p.close());
        due("1 = 2 of level 0 is there", true, () -> p.follows(1, 2, true));
        due("clauses()", 1, () -> p.clauses());
        due("close() of level 0", STATE, () -> p.close());
    }

    // ---- a clause refused between two that are taken

    private static final int F4X = 8;
    private static final int GXX = 9;

    /** F(0) != F(1) on level 0 and on level 1 F(0) = 0 or 0 = 1; terms 5 .. 8 are F(X) .. F^4(X). */
    private static EqualityProver withFirstClause() {
        EqualityProver p = new EqualityProver(1);
        int f0 = p.term(F, 0, 0);
        int f1 = p.term(F, 1, 0);
        int x = p.term(X, 0, 0);
        int last = x;
        while (last < F4X) {
            last = p.term(F, last, 0);
        }
        p.term(G, x, x);
        clauseNot(p, f0, f1);
        p.open();
        clause(p, f0, 0, 0, 1);
        return p;
    }

    /** There is room for the instance with X being 0, which never holds, but none for the other one. */
    private static void refuseForThings(EqualityProver p) {
        p.literal(F4X, F4X, false);
        due("F^4(X) != F^4(X)", STATE, () -> p.clause());
    }

    private static void takeSecondClause(EqualityProver p) {
        due("G(X, X) = X behind the refused one", 2, () -> clause(p, GXX, 4));
        due("its things", "0 1 2 3 10 11", () -> thingTerms(p));
        due("G(0, 0)", "2,0,0", () -> shape(p, 10));
        due("G(1, 1)", "2,1,1", () -> shape(p, 11));
        due("labels", "010101", () -> labels(p));
    }

    private static void compareWithTwin(String what, EqualityProver p, EqualityProver twin) {
        due("all that is told behind " + what, everything(twin), () -> everything(p));
    }

    private static void refusedBetweenTwo() {
        section("a clause without room for its things between two that are taken");
        for (int copies = 1; copies <= 3; copies++) {
            EqualityProver p = withFirstClause();
            for (int i = 0; i < copies; i++) {
                refuseForThings(p);
            }
            due("contradict() is as before", false, () -> p.contradict());
            due("clauses()", 2, () -> p.clauses());
            due("terms()", 10, () -> p.terms());
            due("things()", 4, () -> p.things());
            compareWithTwin(copies + " refused clauses", p, withFirstClause());
        }
        EqualityProver q = withFirstClause();
        refuseForThings(q);
        takeSecondClause(q);
        refuseForThings(q);
        due("labels behind the next refused one", "010101", () -> labels(q));
        due("close() of level 1", 2, () -> q.close());
        due("clauses()", 1, () -> q.clauses());
        due("labels behind close()", "010100", () -> labels(q));
        due("G(0, 0) = 0 follows no more", false, () -> q.follows(4, 0, true));
        due("F(0) != F(1) of level 0 does", true, () -> q.follows(2, 3, false));
    }

    private static void refusedOnOtherLevel() {
        section("a clause refused on a level of its own");
        EqualityProver p = withFirstClause();
        p.open();
        refuseForThings(p);
        due("close() of the level without clauses", 0, () -> p.close());
        compareWithTwin("a refused clause on level 2", p, withFirstClause());
        EqualityProver q = withFirstClause();
        q.open();
        refuseForThings(q);
        takeSecondClause(q);
        due("close() of level 2", 1, () -> q.close());
        due("labels of level 1", "010100", () -> labels(q));
        due("close() of level 1", 1, () -> q.close());
        due("clauses()", 1, () -> q.clauses());
    }

    private static void refusedSeventeenth() {
        section("a clause refused as the 17th between two that are taken");
        EqualityProver p = withFirstClause();
        p.open();
        while (p.clauses() < 16) {
            clause(p, 0, 0);
        }
        due("the 17th", STATE, () -> clause(p, GXX, 4));
        due("G(0, 0) is no thing", 4, () -> p.things());
        due("nor a term", 10, () -> p.terms());
        due("close() of level 2", 14, () -> p.close());
        takeSecondClause(p);
        due("clauses()", 3, () -> p.clauses());
    }

    private static void refusedForTerms() {
        section("a clause without room for its terms between two that are taken");
        EqualityProver p = withTerms(1, 16);
        int x = p.term(X, 0, 0);
        int gxx = p.term(G, x, x);
        int g0x = p.term(G, 0, x);
        due("0 != 1", 1, () -> clauseNot(p, 0, 1));
        due("G(0, X) = G(X, X) has three new terms", STATE, () -> clause(p, g0x, gxx));
        due("terms()", 19, () -> p.terms());
        due("things()", 2, () -> p.things());
        due("G(1, 1) has the number that G(0, 0) had not", 19, () -> p.term(G, 1, 1));
        due("G(1, 1) = 1", 1, () -> clause(p, 19, 1));
        due("things", "0 1 19", () -> thingTerms(p));
        due("labels", "011", () -> labels(p));
        due("G(X, X) = X has one new term", STATE, () -> clause(p, gxx, x));
        due("G(1, 1) is there yet", "2,1,1", () -> shape(p, 19));
        due("labels", "011", () -> labels(p));
    }

    private static void numbersOfRefusedTerms() {
        section("numbers that terms of a refused clause would have had");
        EqualityProver p = new EqualityProver(2);
        p.term(Y, 0, 0);
        p.term(F, 3, 0);
        p.term(F, 4, 0);
        due("F(F(Y)) != 0 has 9 things", STATE, () -> clauseNot(p, 5, 0));
        due("X, where F(0) would have been", 6, () -> p.term(X, 0, 0));
        due("F(X), where F(F(0)) would have been", 7, () -> p.term(F, 6, 0));
        due("G(1, 2), where F(1) would have been", 8, () -> p.term(G, 1, 2));
        due("X = 0 has three instances", 3, () -> clause(p, 6, 0));
        due("G(1, 2) != 0 has one", 1, () -> clauseNot(p, 8, 0));
        due("F(X) = G(1, 2) has three", 3, () -> clause(p, 7, 8));
        due("things", "0 1 2 8 9 10 11", () -> thingTerms(p));
        due("labels", "0003333", () -> labels(p));
        p.open();
        due("F(F(Y)) != 0 has 10 things", STATE, () -> clauseNot(p, 5, 0));
        due("F(F(0)), where F(F(0)) would have been", 12, () -> p.term(F, 9, 0));
        due("F(F(0)) != F(0)", 1, () -> clauseNot(p, 12, 9));
        due("labels", "00033330", () -> labels(p));
        due("close()", 1, () -> p.close());
        due("labels", "00033330", () -> labels(p));
        due("F(F(0)) = 0 follows not", false, () -> p.follows(7, 0, true));
    }

    // ---- terms that a later clause brings in

    private static void laterTerms() {
        section("terms that a later clause brings in");
        EqualityProver p = new EqualityProver(1);
        int fx = p.term(F, p.term(X, 0, 0), 0);
        int f1 = p.term(F, 1, 0);
        clause(p, 0, 1);
        due("F(1) != 0", 1, () -> clauseNot(p, f1, 0));
        due("F(1) is thing 2", "0 1 4", () -> thingTerms(p));
        p.open();
        due("F(X) = X or F(X) = F(1)", 2, () -> clause(p, fx, 2, fx, f1));
        due("F(0) is thing 3 and term 5", "0 1 4 5", () -> thingTerms(p));
        due("F(0) = F(1) follows, from 0 = 1", true, () -> p.follows(2, 3, true));
        due("labels", "0022", () -> labels(p));
        due("close()", 1, () -> p.close());
        due("F(0) = F(1) follows yet", true, () -> p.follows(2, 3, true));
        due("F(0) != 0 follows from F(1) != 0", true, () -> p.follows(0, 3, false));
        due("F(0) = 0", 1, () -> clause(p, 5, 0));
        due("contradict()", true, () -> p.contradict());

        section("a later thing that makes a contradiction");
        EqualityProver q = new EqualityProver(1);
        int qf0 = q.term(F, 0, 0);
        int qf1 = q.term(F, 1, 0);
        clause(q, 0, 1);
        clause(q, qf0, 0);
        due("contradict() while F(1) is no thing", false, () -> q.contradict());
        q.open();
        clauseNot(q, qf1, 1);
        due("contradict() with F(1) != 1", true, () -> q.contradict());
        due("label(3)", NO_ELEMENT, () -> q.label(3));
        q.close();
        due("contradict() behind close()", false, () -> q.contradict());
        due("F(1) is a thing, and is 0", 0, () -> q.label(3));
        due("F(1) = 1 follows", true, () -> q.follows(3, 1, true));
    }

    private static void laterParts() {
        section("parts that were terms, and become things with a later clause");
        EqualityProver p = new EqualityProver(0);
        int f = p.term(F, 0, 0);
        int g = p.term(G, f, f);
        int fg = p.term(F, g, 0);
        int x = p.term(X, 0, 0);
        int fx = p.term(F, x, 0);
        int gfx = p.term(G, fx, x);
        due("F(X) = X makes no term: F(0) is there", 1, () -> clause(p, fx, x));
        due("terms()", 7, () -> p.terms());
        due("things", "0 1", () -> thingTerms(p));
        due("F(G(F(0), F(0))) != 0", 1, () -> clauseNot(p, fg, 0));
        due("things", "0 1 2 3", () -> thingTerms(p));
        due("labels", "0022", () -> labels(p));
        due("G(F(X), X) = X", 1, () -> clause(p, gfx, x));
        due("G(F(0), 0) is term 7", "2,1,0", () -> shape(p, 7));
        due("things", "0 1 2 3 7", () -> thingTerms(p));
        due("G(F(0), 0) is G(F(0), F(0)) as F(0) is 0, so F of it is F(0)", true, () -> p.contradict());
    }

    // ---- instances of clauses taken before them

    private static void onlyConstantsForVariables() {
        section("variables stand for constants, not for things that come later");
        EqualityProver one = new EqualityProver(0);
        clause(one, one.term(X, 0, 0), 0);
        clauseNot(one, one.term(F, 0, 0), 0);
        due("X = 0, F(0) != 0", false, () -> one.contradict());
        due("labels", "01", () -> labels(one));

        EqualityProver g = new EqualityProver(1);
        int x = g.term(X, 0, 0);
        due("G(X, X) = X", 2, () -> clause(g, g.term(G, x, x), x));
        int f0 = g.term(F, 0, 0);
        int gff = g.term(G, f0, f0);
        g.open();
        due("G(F(0), F(0)) != F(0)", 1, () -> clauseNot(g, gff, f0));
        due("contradict()", false, () -> g.contradict());
        due("F(0) is not 0, nor 1", true, () -> g.follows(4, 0, false) && g.follows(4, 1, false));
        due("close()", 1, () -> g.close());
        due("F(0) = 0 is possible", false, () -> g.follows(4, 0, false));
        clause(g, f0, 1);
        due("G(F(0), F(0)) = F(0) follows when F(0) is 1", true, () -> g.follows(5, 4, true));

        EqualityProver f = new EqualityProver(1);
        int fx = f.term(F, f.term(X, 0, 0), 0);
        due("F(X) != X", 2, () -> clauseNot(f, fx, 2));
        int ff0 = f.term(F, 4, 0);
        due("F(F(0)) = F(0)", 1, () -> clause(f, ff0, 4));
        due("things", "0 1 4 5 6", () -> thingTerms(f));
        due("labels", "00222", () -> labels(f));
        due("F(0) = 1 would make F(1) = 1", true, () -> f.follows(2, 1, false));
        clause(f, 4, 1);
        due("contradict() with F(0) = 1", true, () -> f.contradict());
    }

    private static void earlierInstancesMeetLaterThings() {
        section("what instances of earlier clauses say of things that come later");
        EqualityProver p = new EqualityProver(1);
        int x = p.term(X, 0, 0);
        int fx = p.term(F, x, 0);
        due("F(X) = X", 2, () -> clause(p, fx, x));
        due("terms()", 6, () -> p.terms());
        int ff0 = p.term(F, 4, 0);
        int fff0 = p.term(F, ff0, 0);
        due("F(F(F(0))) = F(F(F(0)))", 1, () -> clause(p, fff0, fff0));
        due("F(F(0)) = 0 follows", true, () -> p.follows(4, 0, true));
        due("F(F(F(0))) = 0 follows", true, () -> p.follows(5, 0, true));
        due("F(F(F(0))) = 1 does not", false, () -> p.follows(5, 1, true));
        clauseNot(p, 0, 1);
        due("labels", "010100", () -> labels(p));
        int y = p.term(Y, 0, 0);
        int gxy = p.term(G, x, y);
        due("G(X, Y) = Y has 4 more things", STATE, () -> clause(p, gxy, y));
        due("labels", "010100", () -> labels(p));
        int gx0 = p.term(G, x, 0);
        due("G(X, 0) = X has 2 more things", 2, () -> clause(p, gx0, x));
        due("labels", "01010001", () -> labels(p));
    }

    // ---- F and G of things from one box

    private static void boxesOfF() {
        section("F of things from one box");
        // Which constants are in one box: all ways to put three into boxes.
        int[][] ways = {{0, 0, 0}, {0, 0, 2}, {0, 1, 0}, {0, 1, 1}, {0, 1, 2}};
        for (int[] way : ways) {
            EqualityProver p = new EqualityProver(2);
            int fx = p.term(F, p.term(X, 0, 0), 0);
            clause(p, fx, fx);
            for (int s = 0; s < 3; s++) {
                for (int t = 0; t < s; t++) {
                    p.literal(s, t, way[s] == way[t]);
                    p.clause();
                }
            }
            for (int s = 0; s < 3; s++) {
                for (int t = 0; t < 3; t++) {
                    int left = 3 + s;
                    int right = 3 + t;
                    due("F of things from one box are equal", way[s] == way[t],
                            () -> p.follows(left, right, true));
                    due("F of things from two boxes may be equal", false, () -> p.follows(left, right, false));
                }
            }
        }
    }

    private static void chainsOfF() {
        section("F of F of F .. of things from one box");
        EqualityProver p = withTerms(0, 8);
        due("F^7 = F^7", 1, () -> clause(p, 7, 7));
        due("F^2 = F^4", 1, () -> clause(p, 2, 4));
        due("F^3 = F^5 = F^7 follows", true, () -> p.follows(3, 5, true) && p.follows(5, 7, true));
        due("F^1 = F^3 does not", false, () -> p.follows(1, 3, true));
        p.open();
        clauseNot(p, 2, 3);
        due("labels with F^2 != F^3", "01010101", () -> labels(p));
        due("F^1 != F^2 follows", true, () -> p.follows(1, 2, false));
        p.open();
        clauseNot(p, 0, 2);
        due("labels with F^0 != F^2", "01212121", () -> labels(p));
        p.open();
        clauseNot(p, 3, 1);
        due("labels with F^1 != F^3", "01232323", () -> labels(p));
        p.open();
        clause(p, 7, 2);
        due("contradict() with F^2 = F^7", true, () -> p.contradict());
        p.close();
        p.close();
        due("labels without F^1 != F^3", "01212121", () -> labels(p));
        p.close();
        p.close();
        due("labels of level 0", "00000000", () -> labels(p));
    }

    /** Two constants and G(X, Y) of them as things 2 .. 5: G(0, 0), G(0, 1), G(1, 0), G(1, 1). */
    private static EqualityProver withAllG() {
        EqualityProver p = new EqualityProver(1);
        int gxy = p.term(G, p.term(X, 0, 0), p.term(Y, 0, 0));
        clause(p, gxy, gxy);
        return p;
    }

    private static void boxesOfG() {
        section("G of things from one box, and of others from one box");
        EqualityProver one = withAllG();
        clause(one, 0, 1);
        EqualityProver two = withAllG();
        clauseNot(two, 0, 1);
        for (int s = 2; s < 6; s++) {
            for (int t = 2; t < 6; t++) {
                int left = s;
                int right = t;
                due("all G are equal when 0 = 1", true, () -> one.follows(left, right, true));
                due("no two G need be when 0 != 1", s == t, () -> two.follows(left, right, true));
                due("they may be", false, () -> two.follows(left, right, false));
            }
        }
        due("labels when 0 = 1", "000000", () -> labels(one));
        for (int s = 3; s < 6; s++) {
            EqualityProver p = withAllG();
            int other = s;
            clauseNot(p, p.thing(2), p.thing(s));
            due("G(0, 0) != G(..) makes 0 != 1", true, () -> p.follows(0, 1, false));
            due("labels of 0 and 1", "01", () -> labels(p).substring(0, 2));
            due("the label of that G", 1, () -> p.label(other));
        }

        section("G of one box on one side alone");
        EqualityProver sides = new EqualityProver(3);
        int g01 = sides.term(G, 0, 1);
        int g23 = sides.term(G, 2, 3);
        int g10 = sides.term(G, 1, 0);
        clause(sides, g01, g23, g10, g10);
        due("things", "0 1 2 3 4 5 6", () -> thingTerms(sides));
        sides.open();
        clause(sides, 0, 2);
        due("the first ones are equal", false, () -> sides.follows(4, 5, true));
        clause(sides, 1, 3);
        due("the others are, too", true, () -> sides.follows(4, 5, true));
        due("G(1, 0) need not be", false, () -> sides.follows(4, 6, true));
        clause(sides, 0, 3);
        due("but when all are equal", true, () -> sides.follows(4, 6, true));
        sides.close();
        clause(sides, 1, 3);
        due("the others alone are equal", false, () -> sides.follows(4, 5, true));
        sides.open();
        clause(sides, 0, 3);
        clause(sides, 1, 2);
        due("crosswise: G(0, 1) and G(2, 3)", true, () -> sides.follows(4, 5, true));
        sides.close();
        sides.open();
        clause(sides, 0, 1);
        due("G(0, 1) and G(1, 0)", true, () -> sides.follows(4, 6, true));
        due("G(0, 1) and G(2, 3)", false, () -> sides.follows(4, 5, true));
    }

    private static void boxesOfFAndG() {
        section("F beside G");
        EqualityProver p = new EqualityProver(1);
        int f0 = p.term(F, 0, 0);
        int g00 = p.term(G, 0, 0);
        clauseNot(p, f0, g00);
        clause(p, 0, 1);
        due("F(0) != G(0, 0) is no contradiction", false, () -> p.contradict());
        due("labels", "0003", () -> labels(p));

        section("G of F of things from one box");
        EqualityProver q = new EqualityProver(1);
        int qf0 = q.term(F, 0, 0);
        int qf1 = q.term(F, 1, 0);
        int left = q.term(G, qf0, 1);
        int right = q.term(G, 0, qf1);
        int fLeft = q.term(F, left, 0);
        int fRight = q.term(F, right, 0);
        due("F(G(F(0), 1)) != F(G(0, F(1)))", 1, () -> clauseNot(q, fLeft, fRight));
        due("things", "0 1 2 4 6 3 5 7", () -> thingTerms(q));
        due("so G(F(0), 1) != G(0, F(1))", true, () -> q.follows(3, 6, false));
        due("but F(0) = F(1) may be", false, () -> q.follows(2, 5, false));
        q.open();
        clause(q, qf0, 0);
        due("F(0) = 0, so F(1) != 1", true, () -> q.follows(5, 1, false));
        clause(q, qf1, 1);
        due("contradict() with F(1) = 1", true, () -> q.contradict());
        q.close();
        due("0 != 1 follows not", false, () -> q.follows(0, 1, false));
        clause(q, 0, 1);
        due("with 0 = 1, F(0) is not 0", true, () -> q.follows(2, 0, false));
        due("labels: F(0) is 2, G(F(0), 1) 0, F of it F(0), G(0, F(1)) 2", "00202220", () -> labels(q));
    }

    private static void boxesByChoice() {
        section("F of things that one of two literals puts into one box");
        EqualityProver p = new EqualityProver(2);
        int fx = p.term(F, p.term(X, 0, 0), 0);
        clause(p, fx, fx);
        due("0 = 1 or 0 = 2", 1, () -> clause(p, 0, 1, 0, 2));
        due("neither F(0) = F(1) nor F(0) = F(2) follows", false,
                () -> p.follows(3, 4, true) || p.follows(3, 5, true));
        p.open();
        clauseNot(p, p.thing(3), p.thing(4));
        due("F(0) != F(1), so 0 = 2", true, () -> p.follows(0, 2, true));
        due("so F(0) = F(2)", true, () -> p.follows(3, 5, true));
        due("labels", "010010", () -> labels(p));
        clauseNot(p, p.thing(5), p.thing(3));
        due("contradict() with F(0) != F(2)", true, () -> p.contradict());
        due("close()", 2, () -> p.close());
        due("labels", "000000", () -> labels(p));
    }

    public static void main(String[] args) {
        groundClausesOnLevels();
        openClausesOnLevels();
        manyInstancesOnLevels();
        reopenedLevel();
        roomThatStaysTaken();
        levelsAboveClosedOnes();
        refusedBetweenTwo();
        refusedOnOtherLevel();
        refusedSeventeenth();
        refusedForTerms();
        numbersOfRefusedTerms();
        laterTerms();
        laterParts();
        onlyConstantsForVariables();
        earlierInstancesMeetLaterThings();
        boxesOfF();
        chainsOfF();
        boxesOfG();
        boxesOfFAndG();
        boxesByChoice();
        finish();
    }
}
