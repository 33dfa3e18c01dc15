/**
 * One call of the face with its arguments, to be made of the program and of the model alike. The
 * answer is a number, a boolean counting 1 or 0, or the name of an exception behind "throws.".
 */
record AnyCall(String name, int a, int b, int c) {
    private interface Numbered {
        long make();
    }

    static AnyCall of(String name, int... arguments) {
        return new AnyCall(name,
                arguments.length > 0 ? arguments[0] : 0,
                arguments.length > 1 ? arguments[1] : 0,
                arguments.length > 2 ? arguments[2] : 0);
    }

    String answerOf(EqualityProver p) {
        return answer(() -> ofProgram(p));
    }

    String answerOf(Model m) {
        return answer(() -> ofModel(m));
    }

    private static String answer(Numbered call) {
        try {
            return "" + call.make();
        } catch (RuntimeException e) {
            return "throws." + e.getClass().getSimpleName();
        }
    }

    private long ofProgram(EqualityProver p) {
        switch (name) {
            case "term": return p.term(a, b, c);
            case "literal": return p.literal(a, b, c == 1);
            case "clause": return p.clause();
            case "open": return p.open();
            case "close": return p.close();
            case "contradict": return p.contradict() ? 1 : 0;
            case "follows": return p.follows(a, b, c == 1) ? 1 : 0;
            case "label": return p.label(a);
            case "thing": return p.thing(a);
            case "things": return p.things();
            case "terms": return p.terms();
            case "look": return p.look(a, b);
            case "clauses": return p.clauses();
            case "level": return p.level();
            default: throw new AssertionError("no such call: " + name);
        }
    }

    private long ofModel(Model m) {
        switch (name) {
            case "term": return m.term(a, b, c);
            case "literal": return m.literal(a, b, c == 1);
            case "clause": return m.clause();
            case "open": return m.open();
            case "close": return m.close();
            case "contradict": return m.allWorlds().isEmpty() ? 1 : 0;
            case "follows": return m.follows(a, b, c == 1);
            case "label": return m.label(a);
            case "thing": return m.thing(a);
            case "things": return m.things.size();
            case "terms": return m.terms.size();
            case "look": return m.look(a, b);
            case "clauses": return m.clauses.size();
            case "level": return m.levels.size() - 1;
            default: throw new AssertionError("no such call: " + name);
        }
    }
}
