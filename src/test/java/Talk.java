import java.util.ArrayList;
import java.util.List;
import java.util.function.IntUnaryOperator;

/**
 * Makes calls on a TypeKernel that are written as words, and tells its answers as texts. The words are the methods'
 * names; constant(3) is c3, variable(0) is v0, declare(true) is declare+, declare(false) declare-. What asks for
 * numbers is written as in Java, without blanks: judgement(0,true,2).
 */
final class Talk {
    /** Rows are looked at up to here, beyond the longest one that there may be. */
    private static final int ROW_END = 45;

    private static final int THROWN = -999;

    private static int wrong = 0;

    final TypeKernel kernel = new TypeKernel();
    private final String title;

    /** A new object on which these calls have been made, none of which may throw. */
    Talk(String title, String words) {
        this.title = title;
        does(words);
    }

    static void end(String what) {
        System.out.println(what + ": " + (wrong == 0 ? "all answers are as due" : wrong + " answers are not as due"));
        if (wrong != 0) {
            System.exit(1);
        }
    }

    void is(String what, Object got, Object due) {
        if (!String.valueOf(got).equals(String.valueOf(due))) {
            wrong++;
            System.out.println(title + ": " + what + " answered " + got + ", due is " + due);
        }
    }

    /** None of these calls may throw. */
    void does(String words) {
        for (String word : split(words)) {
            String answer = answer(kernel, word);
            if (answer.endsWith("Exception")) {
                is(word + " in " + words, answer, "no exception");
            }
        }
    }

    /**
     * All calls but the last may not throw; the last one answers what is due. What is refused, by an exception or
     * by false, changes nothing.
     */
    void answers(String words, Object due) {
        List<String> calls = split(words);
        String last = calls.remove(calls.size() - 1);
        does(String.join(" ", calls));
        boolean isRefused = String.valueOf(due).endsWith("Exception") || due.equals(false);
        String before = isRefused ? state(kernel) : "";
        is(words, answer(kernel, last), due);
        if (isRefused) {
            is("the state after " + words, state(kernel), before);
        }
    }

    void term(int k, String due) {
        is("the term of judgement " + k, judgementRow(kernel, k, false), due);
    }

    void itsType(int k, String due) {
        is("the type of judgement " + k, judgementRow(kernel, k, true), due);
    }

    void entry(int k, String due) {
        is("entry " + k, entryRow(kernel, k), due);
    }

    void constant(int c, int definable, String due) {
        answers("type(" + c + ",-1)", definable);
        is("the type of constant " + c, typeRow(kernel, c), due);
    }

    void rule(int r, int variables, String left, String right) {
        answers("side(" + r + ",false,-1)", variables);
        is("the left side of rule " + r, sideRow(kernel, r, false), left);
        is("the right side of rule " + r, sideRow(kernel, r, true), right);
    }

    void counts(int judgements, int entries, int constants, int rules) {
        answers("counts", judgements + 8 * entries + 64 * constants + 1024 * rules);
    }

    static List<String> split(String words) {
        List<String> calls = new ArrayList<>();
        for (String word : words.trim().split("\\s+")) {
            if (!word.isEmpty()) {
                calls.add(word);
            }
        }
        return calls;
    }

    static String answer(TypeKernel kernel, String word) {
        try {
            return call(kernel, word);
        } catch (RuntimeException e) {
            return e.getClass().getSimpleName();
        }
    }

    private static String call(TypeKernel kernel, String word) {
        if (word.matches("[cv]-?\\d+")) {
            int number = Integer.parseInt(word.substring(1));
            if (word.charAt(0) == 'c') {
                kernel.constant(number);
            } else {
                kernel.variable(number);
            }
            return "done";
        }
        if (word.endsWith(")")) {
            return String.valueOf(number(kernel, word.split("[(,)]")));
        }
        switch (word) {
            case "sort": kernel.sort(); return "done";
            case "apply": kernel.apply(); return "done";
            case "assume": kernel.assume(); return "done";
            case "lambda": kernel.lambda(); return "done";
            case "product": kernel.product(); return "done";
            case "declare+": return String.valueOf(kernel.declare(true));
            case "declare-": return String.valueOf(kernel.declare(false));
            case "rule": return String.valueOf(kernel.rule());
            case "normal": return String.valueOf(kernel.normal());
            case "same": return String.valueOf(kernel.same());
            case "drop": return String.valueOf(kernel.drop());
            case "leave": return String.valueOf(kernel.leave());
            case "counts": return String.valueOf(kernel.counts());
            default: throw new Error("no such word: " + word);
        }
    }

    /** What a call that asks for a number answers; the call is its name and its arguments. */
    private static int number(TypeKernel kernel, String[] call) {
        int first = Integer.parseInt(call[1]);
        int last = Integer.parseInt(call[call.length - 1]);
        switch (call[0]) {
            case "judgement": return kernel.judgement(first, Boolean.parseBoolean(call[2]), last);
            case "made": return kernel.made(first);
            case "entry": return kernel.entry(first, last);
            case "type": return kernel.type(first, last);
            case "side": return kernel.side(first, Boolean.parseBoolean(call[2]), last);
            default: throw new Error("no such call: " + call[0]);
        }
    }

    /** All that the object tells of itself, asked beyond every edge too. */
    static String state(TypeKernel kernel) {
        StringBuilder text = new StringBuilder();
        text.append("counts ").append(kernel.counts());
        for (int k = -1; k <= 6; k++) {
            text.append("\njudgement ").append(k).append(" made ").append(ask(kernel::made, k));
            text.append(": ").append(judgementRow(kernel, k, false));
            text.append(" : ").append(judgementRow(kernel, k, true));
        }
        for (int k = -1; k <= 4; k++) {
            text.append("\nentry ").append(k).append(": ").append(entryRow(kernel, k));
        }
        for (int c = -1; c <= 8; c++) {
            text.append("\nconstant ").append(c).append(" definable ").append(ask(i -> kernel.type(i, -1), c));
            text.append(": ").append(typeRow(kernel, c));
        }
        for (int r = -1; r <= 8; r++) {
            text.append("\nrule ").append(r).append(" variables ").append(ask(i -> kernel.side(i, false, -1), r));
            text.append(" ").append(ask(i -> kernel.side(i, true, -1), r));
            text.append(": ").append(sideRow(kernel, r, false)).append(" -> ").append(sideRow(kernel, r, true));
        }
        return text.toString();
    }

    static String judgementRow(TypeKernel kernel, int k, boolean type) {
        return row(i -> kernel.judgement(k, type, i), -1);
    }

    static String entryRow(TypeKernel kernel, int k) {
        return row(i -> kernel.entry(k, i), -1);
    }

    static String typeRow(TypeKernel kernel, int c) {
        return row(i -> kernel.type(c, i), -2);
    }

    static String sideRow(TypeKernel kernel, int r, boolean right) {
        return row(i -> kernel.side(r, right, i), -2);
    }

    /** The numbers up to the first -1; what stands outside the row, from the number before it on, has to be -1. */
    private static String row(IntUnaryOperator numbers, int before) {
        StringBuilder text = new StringBuilder();
        int end = 0;
        while (end < ROW_END && ask(numbers, end) != -1) {
            text.append(end == 0 ? "" : " ").append(ask(numbers, end));
            end++;
        }
        for (int i = end; i < ROW_END; i++) {
            outside(numbers, i, text);
        }
        outside(numbers, before, text);
        outside(numbers, before - 1, text);
        return text.toString();
    }

    private static void outside(IntUnaryOperator numbers, int i, StringBuilder text) {
        if (ask(numbers, i) != -1) {
            text.append(" and number ").append(i).append(" is ").append(ask(numbers, i));
        }
    }

    /** What asks for a number never throws; a class that does so is to fail its tests, not to end them. */
    private static int ask(IntUnaryOperator numbers, int i) {
        try {
            return numbers.applyAsInt(i);
        } catch (RuntimeException e) {
            return THROWN;
        }
    }
}
