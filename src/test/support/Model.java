import java.util.ArrayList;
import java.util.Arrays;
import java.util.List;
import java.util.NoSuchElementException;

/** What the document says, with no regard to speed: terms are texts, and all worlds are gone through. */
final class Model {
    final int constants;
    final List<String> terms = new ArrayList<>();
    final List<int[]> shapes = new ArrayList<>();
    final List<String> things = new ArrayList<>();
    final List<String> draft = new ArrayList<>();
    /** Each clause: its instances; each instance: texts left, right, claim, one after the other. */
    final List<List<List<String>>> clauses = new ArrayList<>();
    final List<Integer> levels = new ArrayList<>();
    private List<int[]> worlds;

    Model(int argument) {
        constants = 1 + ((argument % 4) + 4) % 4;
        for (int i = 0; i < constants; i++) {
            terms.add("c" + i);
            shapes.add(new int[] {0, i, 0});
            things.add("c" + i);
        }
        levels.add(0);
    }

    private boolean isTerm(int n) {
        return n >= 0 && n < terms.size();
    }

    private boolean isThing(int n) {
        return n >= 0 && n < things.size();
    }

    int longestTerm() {
        int longest = 0;
        for (String text : terms) {
            longest = Math.max(longest, text.length());
        }
        return longest;
    }

    long term(int kind, int a, int b) {
        String text;
        if (kind == 1) {
            if (!isTerm(a)) {
                throw new IllegalArgumentException();
            }
            text = "F(" + terms.get(a) + ")";
        } else if (kind == 2) {
            if (!isTerm(a) || !isTerm(b)) {
                throw new IllegalArgumentException();
            }
            text = "G(" + terms.get(a) + "," + terms.get(b) + ")";
        } else if (kind == 3) {
            text = "X";
        } else if (kind == 4) {
            text = "Y";
        } else {
            throw new IllegalArgumentException();
        }
        if (!terms.contains(text)) {
            if (terms.size() == 20) {
                throw new IllegalStateException();
            }
            terms.add(text);
            shapes.add(new int[] {kind, kind <= 2 ? a : 0, kind == 2 ? b : 0});
        }
        return terms.indexOf(text);
    }

    long literal(int s, int t, boolean equal) {
        if (!isTerm(s) || !isTerm(t)) {
            throw new IllegalArgumentException();
        }
        if (draft.size() == 12) {
            throw new IllegalStateException();
        }
        draft.add(terms.get(s));
        draft.add(terms.get(t));
        draft.add(equal ? "=" : "#");
        return draft.size() / 3;
    }

    long clause() {
        List<String> taken = new ArrayList<>(draft);
        draft.clear();
        if (clauses.size() == 16) {
            throw new IllegalStateException();
        }
        String all = String.join(" ", taken);
        List<List<String>> instances = new ArrayList<>();
        List<String> parts = new ArrayList<>();
        for (int x = 0; x < (all.contains("X") ? constants : 1); x++) {
            for (int y = 0; y < (all.contains("Y") ? constants : 1); y++) {
                List<String> instance = new ArrayList<>();
                for (String text : taken) {
                    String ground = text.replace("X", "c" + x).replace("Y", "c" + y);
                    instance.add(ground);
                    if (!text.equals("=") && !text.equals("#")) {
                        collect(ground, parts);
                    }
                }
                instances.add(instance);
            }
        }
        keep(parts);
        clauses.add(instances);
        worlds = null;
        return instances.size();
    }

    private static String[] insides(String text) {
        if (text.charAt(0) == 'c') {
            return new String[0];
        }
        String inside = text.substring(2, text.length() - 1);
        if (text.charAt(0) == 'F') {
            return new String[] {inside};
        }
        int depth = 0;
        int i = 0;
        while (depth != 0 || inside.charAt(i) != ',') {
            depth += inside.charAt(i) == '(' ? 1 : inside.charAt(i) == ')' ? -1 : 0;
            i++;
        }
        return new String[] {inside.substring(0, i), inside.substring(i + 1)};
    }

    private static void collect(String text, List<String> parts) {
        for (String inside : insides(text)) {
            collect(inside, parts);
        }
        if (!parts.contains(text)) {
            parts.add(text);
        }
    }

    private void keep(List<String> parts) {
        int newTerms = 0;
        int newThings = 0;
        for (String part : parts) {
            newTerms += terms.contains(part) ? 0 : 1;
            newThings += things.contains(part) ? 0 : 1;
        }
        if (terms.size() + newTerms > 20 || things.size() + newThings > 8) {
            throw new IllegalStateException();
        }
        for (String part : parts) {
            if (!terms.contains(part)) {
                String[] insides = insides(part);
                terms.add(part);
                shapes.add(new int[] {insides.length, terms.indexOf(insides[0]),
                    insides.length == 2 ? terms.indexOf(insides[1]) : 0});
            }
            if (!things.contains(part)) {
                things.add(part);
            }
        }
    }

    long open() {
        if (levels.size() == 5) {
            throw new IllegalStateException();
        }
        levels.add(clauses.size());
        return levels.size() - 1;
    }

    long close() {
        if (levels.size() == 1) {
            throw new IllegalStateException();
        }
        int from = levels.remove(levels.size() - 1);
        int gone = 0;
        while (clauses.size() > from) {
            clauses.remove(clauses.size() - 1);
            gone++;
        }
        worlds = null;
        return gone;
    }

    /** All worlds of the clauses, as boxes of the things: boxes are numbered as they are first used. */
    List<int[]> allWorlds() {
        if (worlds == null) {
            worlds = new ArrayList<>();
            divide(new int[things.size()], 0, 0, insidesOfThings(), literalsOfInstances());
        }
        return worlds;
    }

    /** For each thing the things that stand in it. */
    private int[][] insidesOfThings() {
        int[][] all = new int[things.size()][];
        for (int i = 0; i < all.length; i++) {
            String[] insides = insides(things.get(i));
            all[i] = new int[insides.length];
            for (int j = 0; j < insides.length; j++) {
                all[i][j] = things.indexOf(insides[j]);
            }
        }
        return all;
    }

    /** For each instance of all clauses its literals: left thing, right thing, 1 or 0 for the claim. */
    private List<int[]> literalsOfInstances() {
        List<int[]> all = new ArrayList<>();
        for (List<List<String>> clause : clauses) {
            for (List<String> instance : clause) {
                int[] literals = new int[instance.size()];
                for (int i = 0; i < literals.length; i++) {
                    literals[i] = i % 3 < 2 ? things.indexOf(instance.get(i))
                            : instance.get(i).equals("=") ? 1 : 0;
                }
                all.add(literals);
            }
        }
        return all;
    }

    private void divide(int[] boxes, int next, int used, int[][] insides, List<int[]> instances) {
        if (next == boxes.length) {
            if (isWorld(boxes, insides) && allHold(boxes, instances)) {
                worlds.add(boxes.clone());
            }
            return;
        }
        for (int box = 0; box <= used; box++) {
            boxes[next] = box;
            divide(boxes, next + 1, Math.max(used, box + 1), insides, instances);
        }
    }

    private static boolean isWorld(int[] boxes, int[][] insides) {
        for (int i = 0; i < boxes.length; i++) {
            for (int j = 0; j < i; j++) {
                if (boxes[i] != boxes[j] && mustShare(insides[i], insides[j], boxes)) {
                    return false;
                }
            }
        }
        return true;
    }

    /** F has one thing in it and G has two, so the number tells them apart. */
    private static boolean mustShare(int[] inOne, int[] inOther, int[] boxes) {
        if (inOne.length == 0 || inOne.length != inOther.length) {
            return false;
        }
        for (int i = 0; i < inOne.length; i++) {
            if (boxes[inOne[i]] != boxes[inOther[i]]) {
                return false;
            }
        }
        return true;
    }

    private static boolean allHold(int[] boxes, List<int[]> instances) {
        for (int[] literals : instances) {
            boolean some = false;
            for (int i = 0; i < literals.length; i += 3) {
                some |= (boxes[literals[i]] == boxes[literals[i + 1]]) == (literals[i + 2] == 1);
            }
            if (!some) {
                return false;
            }
        }
        return true;
    }

    long follows(int s, int t, boolean equal) {
        if (!isThing(s) || !isThing(t)) {
            throw new IllegalArgumentException();
        }
        for (int[] boxes : allWorlds()) {
            if ((boxes[s] == boxes[t]) != equal) {
                return 0;
            }
        }
        return 1;
    }

    private static int[] labels(int[] boxes) {
        int[] labels = new int[boxes.length];
        for (int i = 0; i < boxes.length; i++) {
            while (boxes[labels[i]] != boxes[i]) {
                labels[i]++;
            }
        }
        return labels;
    }

    long label(int thing) {
        if (!isThing(thing)) {
            throw new IllegalArgumentException();
        }
        int[] least = null;
        for (int[] boxes : allWorlds()) {
            int[] labels = labels(boxes);
            if (least == null || Arrays.compare(labels, least) < 0) {
                least = labels;
            }
        }
        if (least == null) {
            throw new NoSuchElementException();
        }
        return least[thing];
    }

    long thing(int k) {
        if (!isThing(k)) {
            throw new IllegalArgumentException();
        }
        return terms.indexOf(things.get(k));
    }

    long look(int term, int what) {
        if (!isTerm(term) || what < 0 || what > 2) {
            throw new IllegalArgumentException();
        }
        return shapes.get(term)[what];
    }
}
