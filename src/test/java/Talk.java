import java.util.ArrayList;
import java.util.List;

/**
 * Makes calls on a TypeKernel that are written as words, and tells its answers as texts. The words are the
 * methods' names; constant(3) is c3, variable(0) is v0, declare(true) is declare+, declare(false) declare-.
 */
final class Talk {
    private static int wrong = 0;

    final TypeKernel kernel = new TypeKernel();
    private final String title;

    /** A new object on which these calls have been made, none of which may throw. */
    Talk(String title, String words) {
        this.title = title;
        does(words);
    }

    static void end(String what) {
        System.out.println(what + ": " + (wrong == 0 ? "all answers are as due" : wrong + " answers are not as due"));
        if (wrong != 0) {
            System.exit(1);
        }
    }

    void is(String what, Object got, Object due) {
        if (!String.valueOf(got).equals(String.valueOf(due))) {
            wrong++;
            System.out.println(title + ": " + what + " answered " + got + ", due is " + due);
        }
    }

    /** None of these calls may throw. */
    void does(String words) {
        for (String word : split(words)) {
            String answer = answer(kernel, word);
            if (answer.endsWith("Exception")) {
                is(word + " in " + words, answer, "no exception");
            }
        }
    }

    /**
     * All calls but the last may not throw; the last one answers what is due. What is refused, by an exception or
     * by false, changes nothing.
     */
    void answers(String words, Object due) {
        List<String> calls = split(words);
        String last = calls.remove(calls.size() - 1);
        does(String.join(" ", calls));
        String before = state(kernel);
        is(words, answer(kernel, last), due);
        if (String.valueOf(due).endsWith("Exception") || due.equals(false)) {
            is("the state after " + words, state(kernel), before);
        }
    }

    void term(int k, String due) {
        is("the term of judgement " + k, judgementRow(kernel, k, false), due);
    }

    void itsType(int k, String due) {
        is("the type of judgement " + k, judgementRow(kernel, k, true), due);
    }

    void entry(int k, String due) {
        is("entry " + k, entryRow(kernel, k), due);
    }

    void constant(int c, int definable, String due) {
        is("whether constant " + c + " is definable", kernel.type(c, -1), definable);
        is("the type of constant " + c, typeRow(kernel, c), due);
    }

    void rule(int r, int variables, String left, String right) {
        is("the variables of rule " + r, kernel.side(r, false, -1), variables);
        is("the left side of rule " + r, sideRow(kernel, r, false), left);
        is("the right side of rule " + r, sideRow(kernel, r, true), right);
    }

    void counts(int judgements, int entries, int constants, int rules) {
        is("counts", kernel.counts(), judgements + 8 * entries + 64 * constants + 1024 * rules);
    }

    static List<String> split(String words) {
        List<String> calls = new ArrayList<>();
        for (String word : words.trim().split("\\s+")) {
            if (!word.isEmpty()) {
                calls.add(word);
            }
        }
        return calls;
    }

    static String answer(TypeKernel kernel, String word) {
        try {
            return call(kernel, word);
        } catch (RuntimeException e) {
            return e.getClass().getSimpleName();
        }
    }

    private static String call(TypeKernel kernel, String word) {
        if (word.matches("[cv]-?\\d+")) {
            int number = Integer.parseInt(word.substring(1));
            if (word.charAt(0) == 'c') {
                kernel.constant(number);
            } else {
                kernel.variable(number);
            }
            return "done";
        }
        switch (word) {
            case "sort": kernel.sort(); return "done";
            case "apply": kernel.apply(); return "done";
            case "assume": kernel.assume(); return "done";
            case "lambda": kernel.lambda(); return "done";
            case "product": kernel.product(); return "done";
            case "declare+": return String.valueOf(kernel.declare(true));
            case "declare-": return String.valueOf(kernel.declare(false));
            case "rule": return String.valueOf(kernel.rule());
            case "normal": return String.valueOf(kernel.normal());
            case "same": return String.valueOf(kernel.same());
            case "drop": return String.valueOf(kernel.drop());
            case "leave": return String.valueOf(kernel.leave());
            default: throw new Error("no such word: " + word);
        }
    }

    /** All that the object tells of itself, asked beyond every edge too. */
    static String state(TypeKernel kernel) {
        StringBuilder text = new StringBuilder();
        text.append("counts ").append(kernel.counts());
        for (int k = -1; k <= 6; k++) {
            text.append("\njudgement ").append(k).append(" made ").append(kernel.made(k));
            text.append(": ").append(judgementRow(kernel, k, false));
            text.append(" : ").append(judgementRow(kernel, k, true));
        }
        for (int k = -1; k <= 4; k++) {
            text.append("\nentry ").append(k).append(": ").append(entryRow(kernel, k));
        }
        for (int c = -1; c <= 8; c++) {
            text.append("\nconstant ").append(c).append(" definable ").append(kernel.type(c, -1));
            text.append(": ").append(typeRow(kernel, c));
        }
        for (int r = -1; r <= 8; r++) {
            text.append("\nrule ").append(r).append(" variables ").append(kernel.side(r, false, -1));
            text.append(" ").append(kernel.side(r, true, -1));
            text.append(": ").append(sideRow(kernel, r, false)).append(" -> ").append(sideRow(kernel, r, true));
        }
        return text.toString();
    }

    static String judgementRow(TypeKernel kernel, int k, boolean type) {
        int[] numbers = new int[45];
        for (int i = 0; i < numbers.length; i++) {
            numbers[i] = kernel.judgement(k, type, i);
        }
        return row(numbers, kernel.judgement(k, type, -1), kernel.judgement(k, type, -2));
    }

    static String entryRow(TypeKernel kernel, int k) {
        int[] numbers = new int[45];
        for (int i = 0; i < numbers.length; i++) {
            numbers[i] = kernel.entry(k, i);
        }
        return row(numbers, kernel.entry(k, -1), kernel.entry(k, -2));
    }

    static String typeRow(TypeKernel kernel, int c) {
        int[] numbers = new int[45];
        for (int i = 0; i < numbers.length; i++) {
            numbers[i] = kernel.type(c, i);
        }
        return row(numbers, -1, kernel.type(c, -2));
    }

    static String sideRow(TypeKernel kernel, int r, boolean right) {
        int[] numbers = new int[45];
        for (int i = 0; i < numbers.length; i++) {
            numbers[i] = kernel.side(r, right, i);
        }
        return row(numbers, -1, kernel.side(r, right, -2));
    }

    /** The numbers up to the first -1; what stands outside the row has to be -1. */
    private static String row(int[] numbers, int before, int farBefore) {
        StringBuilder text = new StringBuilder();
        int end = 0;
        while (end < numbers.length && numbers[end] != -1) {
            text.append(end == 0 ? "" : " ").append(numbers[end]);
            end++;
        }
        for (int i = end; i < numbers.length; i++) {
            if (numbers[i] != -1) {
                text.append(" and number ").append(i).append(" is ").append(numbers[i]);
            }
        }
        if (before != -1 || farBefore != -1) {
            text.append(" and before it ").append(farBefore).append(' ').append(before);
        }
        return text.toString();
    }
}
