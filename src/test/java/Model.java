import java.util.ArrayList;
import java.util.List;
import java.util.function.IntFunction;

/**
 * The document once more, written apart from TypeKernel: terms are trees, and nothing is used again. It takes the
 * words of Talk and tells its state in the same form.
 */
final class Model {
    private static final Tree TYPE = new Tree(0, null, null);
    private static final Tree KIND = new Tree(1, null, null);

    private record Tree(int number, Tree first, Tree second) {
        int size() {
            return first == null ? 1 : 1 + first.size() + second.size();
        }

        boolean binds() {
            return number == 3 || number == 4;
        }

        String row() {
            return first == null ? "" + number : number + " " + first.row() + " " + second.row();
        }
    }

    private record Judged(Tree term, Tree type, int made) {}

    private record Declared(Tree type, boolean definable) {}

    private record Law(Tree left, Tree right, int variables) {}

    private List<Judged> stack = new ArrayList<>();
    private List<Tree> context = new ArrayList<>();
    private List<Declared> constants = new ArrayList<>();
    private List<Law> laws = new ArrayList<>();

    Model copy() {
        Model other = new Model();
        other.stack = new ArrayList<>(stack);
        other.context = new ArrayList<>(context);
        other.constants = new ArrayList<>(constants);
        other.laws = new ArrayList<>(laws);
        return other;
    }

    String answer(String word) {
        try {
            return call(word);
        } catch (RuntimeException e) {
            return e.getClass().getSimpleName();
        }
    }

    private String call(String word) {
        if (word.matches("[cv]-?\\d+")) {
            int number = Integer.parseInt(word.substring(1));
            return word.charAt(0) == 'c' ? constant(number) : variable(number);
        }
        switch (word) {
            case "sort": return push(TYPE, KIND);
            case "apply": return apply();
            case "assume": return assume();
            case "lambda": return bind(3);
            case "product": return bind(4);
            case "declare+": return declare(true);
            case "declare-": return declare(false);
            case "rule": return rule();
            case "normal": return normal();
            case "same": return same();
            case "drop": return drop();
            case "leave": return leave();
            default: throw new Error("no such word: " + word);
        }
    }

    private static <T> T latest(List<T> list, int k) {
        return list.get(list.size() - 1 - k);
    }

    private static <T> void removeLatest(List<T> list) {
        list.remove(list.size() - 1);
    }

    private String push(Tree term, Tree type) {
        if (stack.size() == 6) {
            throw new UnsupportedOperationException();
        }
        stack.add(new Judged(term, type, context.size()));
        return "done";
    }

    private void state(boolean so) {
        if (!so) {
            throw new IllegalStateException();
        }
    }

    private void room(boolean so) {
        if (!so) {
            throw new UnsupportedOperationException();
        }
    }

    private void argument(boolean so) {
        if (!so) {
            throw new IllegalArgumentException();
        }
    }

    private static Tree fitting(Tree tree) {
        if (tree.size() > 40) {
            throw new ArithmeticException();
        }
        return tree;
    }

    private boolean present(int k) {
        return stack.size() > k && latest(stack, k).made == context.size();
    }

    private long presentCount() {
        return stack.stream().filter(judged -> judged.made == context.size()).count();
    }

    private String constant(int c) {
        if (c < 0 || c >= constants.size()) {
            throw new IndexOutOfBoundsException();
        }
        return push(new Tree(10 + c, null, null), constants.get(c).type);
    }

    private String variable(int i) {
        if (i < 0 || i >= context.size()) {
            throw new IndexOutOfBoundsException();
        }
        return push(new Tree(100 + i, null, null), lift(latest(context, i), i + 1, 0));
    }

    private String apply() {
        state(present(0) && present(1));
        Judged upper = latest(stack, 0);
        Judged lower = latest(stack, 1);
        Tree form = reduce(lower.type).tree;
        argument(form.number == 4);
        argument(form.first.equals(reduce(upper.type).tree));
        Tree term = fitting(new Tree(2, lower.term, upper.term));
        Tree type = fitting(put(form.second, upper.term, 0));
        removeLatest(stack);
        removeLatest(stack);
        return push(term, type);
    }

    private String assume() {
        state(present(0));
        room(context.size() < 4);
        argument(latest(stack, 0).type.equals(TYPE));
        context.add(latest(stack, 0).term);
        removeLatest(stack);
        return "done";
    }

    private String bind(int binder) {
        state(present(0) && presentCount() == 1 && context.size() > 0);
        Judged judged = latest(stack, 0);
        boolean sort = judged.type.equals(TYPE) || judged.type.equals(KIND);
        argument(binder == 3 ? !judged.type.equals(KIND) : sort);
        Tree domain = latest(context, 0);
        Tree term = fitting(new Tree(binder, domain, judged.term));
        Tree type = binder == 4 ? judged.type : fitting(new Tree(4, domain, judged.type));
        removeLatest(context);
        removeLatest(stack);
        return push(term, type);
    }

    private String declare(boolean definable) {
        state(context.isEmpty() && !stack.isEmpty());
        room(constants.size() < 8);
        Judged judged = latest(stack, 0);
        argument(judged.type.equals(TYPE) || judged.type.equals(KIND));
        removeLatest(stack);
        constants.add(new Declared(judged.term, definable));
        return "" + (constants.size() - 1);
    }

    private String rule() {
        state(stack.size() == 2 && present(0) && present(1));
        room(laws.size() < 8);
        Judged left = stack.get(0);
        Judged right = stack.get(1);
        Tree head = head(left.term);
        argument(isConstant(head) && constants.get(head.number - 10).definable && isPattern(left.term));
        for (int i = 0; i < context.size(); i++) {
            argument(occurrences(left.term, 100 + i) == 1);
        }
        argument(reduce(left.type).tree.equals(reduce(right.type).tree));
        laws.add(new Law(left.term, right.term, context.size()));
        stack.clear();
        context.clear();
        return "" + (laws.size() - 1);
    }

    private static Tree head(Tree tree) {
        return tree.number == 2 ? head(tree.first) : tree;
    }

    private static boolean isConstant(Tree tree) {
        return tree.number >= 10 && tree.number < 100;
    }

    private static boolean isPattern(Tree tree) {
        return tree.number >= 10 || isConstantApplied(tree);
    }

    private static boolean isConstantApplied(Tree tree) {
        return isConstant(tree) || tree.number == 2 && isConstantApplied(tree.first) && isPattern(tree.second);
    }

    private static int occurrences(Tree tree, int number) {
        if (tree.first == null) {
            return tree.number == number ? 1 : 0;
        }
        return occurrences(tree.first, number) + occurrences(tree.second, number);
    }

    private String normal() {
        state(!stack.isEmpty());
        Judged judged = latest(stack, 0);
        Reduced reduced = reduce(judged.term);
        removeLatest(stack);
        stack.add(new Judged(reduced.tree, judged.type, judged.made));
        return "" + reduced.steps;
    }

    private String same() {
        state(stack.size() >= 2 && latest(stack, 0).made == latest(stack, 1).made);
        Tree lower = reduce(latest(stack, 1).term).tree;
        return "" + lower.equals(reduce(latest(stack, 0).term).tree);
    }

    private String drop() {
        if (stack.isEmpty()) {
            return "false";
        }
        removeLatest(stack);
        return "true";
    }

    private String leave() {
        if (context.isEmpty() || presentCount() > 0) {
            return "false";
        }
        removeLatest(context);
        return "true";
    }

    private static Tree lift(Tree tree, int amount, int bound) {
        if (tree.first == null) {
            return tree.number >= 100 + bound ? new Tree(tree.number + amount, null, null) : tree;
        }
        int within = tree.binds() ? bound + 1 : bound;
        return new Tree(tree.number, lift(tree.first, amount, bound), lift(tree.second, amount, within));
    }

    private static Tree put(Tree body, Tree argument, int bound) {
        if (body.first == null) {
            if (body.number == 100 + bound) {
                return lift(argument, bound, 0);
            }
            return body.number > 100 + bound ? new Tree(body.number - 1, null, null) : body;
        }
        int within = body.binds() ? bound + 1 : bound;
        return new Tree(body.number, put(body.first, argument, bound), put(body.second, argument, within));
    }

    private static Tree fill(Tree right, Tree[] terms, int bound) {
        if (right.first == null) {
            return right.number >= 100 + bound ? lift(terms[right.number - 100 - bound], bound, 0) : right;
        }
        int within = right.binds() ? bound + 1 : bound;
        return new Tree(right.number, fill(right.first, terms, bound), fill(right.second, terms, within));
    }

    private static boolean matches(Tree left, Tree tree, Tree[] terms) {
        if (left.number >= 100) {
            terms[left.number - 100] = tree;
            return true;
        }
        if (left.number != tree.number) {
            return false;
        }
        return left.first == null
                || matches(left.first, tree.first, terms) && matches(left.second, tree.second, terms);
    }

    private record Reduced(Tree tree, int steps) {}

    private Reduced reduce(Tree tree) {
        Tree now = tree;
        int steps = 0;
        for (Tree next = step(now); next != null; next = step(now)) {
            if (steps == 50) {
                throw new ArithmeticException();
            }
            now = fitting(next);
            steps++;
        }
        return new Reduced(now, steps);
    }

    /** The tree after one step, or null when there is no redex in it. */
    private Tree step(Tree tree) {
        if (tree.number == 2 && tree.first.number == 3) {
            return put(tree.first.second, tree.second, 0);
        }
        for (Law law : laws) {
            Tree[] terms = new Tree[law.variables];
            if (matches(law.left, tree, terms)) {
                return fill(law.right, terms, 0);
            }
        }
        if (tree.first == null) {
            return null;
        }
        Tree first = step(tree.first);
        if (first != null) {
            return new Tree(tree.number, first, tree.second);
        }
        Tree second = step(tree.second);
        return second == null ? null : new Tree(tree.number, tree.first, second);
    }

    /** The same text as Talk.state makes of a TypeKernel. */
    String state() {
        StringBuilder text = new StringBuilder();
        text.append("counts ").append(
                stack.size() + 8 * context.size() + 64 * constants.size() + 1024 * laws.size());
        lines(text, 6, k -> k >= stack.size() ? "\njudgement " + k + " made -1:  : "
                : "\njudgement " + k + " made " + latest(stack, k).made + ": " + latest(stack, k).term.row()
                        + " : " + latest(stack, k).type.row());
        lines(text, 4, k -> "\nentry " + k + ": " + (k >= context.size() ? "" : latest(context, k).row()));
        lines(text, 8, c -> c >= constants.size() ? "\nconstant " + c + " definable -1: "
                : "\nconstant " + c + " definable " + (constants.get(c).definable ? 1 : 0) + ": "
                        + constants.get(c).type.row());
        lines(text, 8, r -> r >= laws.size() ? "\nrule " + r + " variables -1 -1:  -> "
                : "\nrule " + r + " variables " + laws.get(r).variables + " " + laws.get(r).variables + ": "
                        + laws.get(r).left.row() + " -> " + laws.get(r).right.row());
        return text.toString();
    }

    /** Number -1 is as little there as one that is too great. */
    private static void lines(StringBuilder text, int limit, IntFunction<String> line) {
        text.append(line.apply(99).replace("99", "-1"));
        for (int k = 0; k <= limit; k++) {
            text.append(line.apply(k));
        }
    }
}
