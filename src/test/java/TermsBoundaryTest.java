/**
 * The document's section "Terms" where it names a boundary: each test bears the words that it holds the class to, and
 * begins on a new object.
 */
public final class TermsBoundaryTest extends Beginnings {
    private static final String PUT =
            "Terms: where d lambdas or products of the body are around, variable d becomes a with d added";

    /** c4 zero is rewritten to itself without end. */
    private static final String ENDLESS = NAT + FUNCTION + "c4 c1 apply c4 c1 apply rule ";

    public static void main(String[] args) {
        calls();
        longestRows();
        numbers();
        put();
        putUnderProducts();
        putWhatBinds();
        putVariablesAbove();
        matches();
        results();
        redexes();
        steps();
        normalForm();
        fiftySteps();
        fiftyStepsOfTypes();
        fortyNumbersInSteps();
        fortyNumbersInTypes();
        fortyNumbersPutTogether();
        context();
        stack();
        present();
        constants();
        rules();
        exceptions();
        stateFirst();
        roomBeforeArgument();
        argumentBeforeLong();
        whatIsLookedAtFirst();
        changesNothing();
        Talk.end("TermsBoundaryTest");
    }

    private static void calls() {
        Talk t = new Talk("What it is: An object is used for at most 512 calls after it has been made", STEPS + FIFTY);
        int made = Talk.split(STEPS + FIFTY).size();
        // Each same makes two normal forms of 50 steps, and leaves both terms as they are.
        t.does(FIFTY);
        for (int call = made + Talk.split(FIFTY).size(); call < 511; call++) {
            t.answers("same", true);
        }
        t.answers("normal", 50);
    }

    /** Each part but one comes with a number of its own before it, so that lengths are odd: 39 fits, 41 does not. */
    private static void longestRows() {
        String sentence = "Terms: TERMS are rows of at most 40 numbers";
        String vec18 = "c6 c5 c2 c2 c1 apply apply apply normal apply ";
        String row = "2 16 " + succs(18);
        Talk t = new Talk(sentence, BIG + NINETEEN);
        t.term(0, succs(19));
        t = new Talk(sentence, BIG + "c2" + NINETEEN);
        t.answers("apply", LONG);
        t = new Talk(sentence, BIG_VEC + vec18 + "assume v0");
        t.entry(0, row);
        t.itsType(0, row);
        t = new Talk(sentence, BIG_VEC + vec18 + "declare- c7");
        t.constant(7, 0, row);
        t.itsType(0, row);
        t = new Talk(sentence, BIG + "c4 c5 c2 c2 c1 apply apply apply normal apply c1 rule");
        t.rule(2, 0, "2 14 " + succs(18), "11");
        t = new Talk(sentence, BIG + "c0 declare+ c6" + NINETEEN + "rule c6");
        t.rule(2, 0, "16", succs(19));
        t.answers("normal", 1);
        t.term(0, succs(19));
    }

    private static void numbers() {
        Talk t = new Talk("Terms: 0 TYPE, 1 KIND", "sort");
        t.term(0, "0");
        t.itsType(0, "1");
        t = new Talk("Terms: 2 an application: the function's row, then the argument's", NAT + "c3 c2 c1 apply apply");
        t.term(0, "2 13 2 12 11");
        t = new Talk("Terms: 3 a lambda, 4 a product: the row of its domain, then that of its body, in which one more "
                + "variable is bound", VEC + "c0 assume c4 v0 apply assume v1 lambda");
        t.term(0, "3 2 14 100 101");
        t.itsType(0, "4 2 14 100 10");
        t = new Talk("Terms: 10 + c the constant c", "sort declare- ".repeat(8) + "c0 c7");
        t.term(1, "10");
        t.term(0, "17");
        t = new Talk("Terms: 100 + i the variable that is bound by the i-th lambda, product or context entry outward, "
                + "from 0", NAT + "c0 assume ".repeat(4) + "v0 v3");
        t.term(1, "100");
        t.term(0, "103");
        t.does("drop drop c3 c3 v0 apply v1 apply apply v3 apply lambda lambda");
        t.term(0, "3 10 3 10 2 2 13 2 2 13 100 101 103");
    }

    private static void put() {
        Talk t = new Talk(PUT, NAT + "c0 assume c0 assume c0 assume v0 lambda v1 apply");
        t.answers("normal", 1);
        t.term(0, "101");
        t = new Talk(PUT, NAT + "c0 assume c0 assume c0 assume c0 assume v1 lambda lambda v1 apply");
        t.answers("normal", 1);
        t.term(0, "3 10 102");
        t = new Talk(PUT, NAT + "c0 assume c0 assume c0 assume c0 assume v2 lambda lambda lambda v0 apply");
        t.answers("normal", 1);
        t.term(0, "3 10 3 10 102");
        t = new Talk(PUT, NAT + "c0 assume c0 assume c0 assume v2 lambda lambda lambda c1 apply");
        t.answers("normal", 1);
        t.term(0, "3 10 3 10 11");
        // A lambda's domain is not under it.
        t = new Talk(PUT, VEC + "c0 assume c4 v0 apply assume v1 lambda lambda c1 apply normal");
        t.term(0, "3 2 14 11 11");
        t = new Talk(PUT, VEC + "c0 assume c0 assume c0 assume c4 v0 apply assume v1 lambda lambda v1 apply normal");
        t.term(0, "3 2 14 101 102");
        t = new Talk(PUT, NAT + "c0 assume c0 assume c3 v0 apply v0 apply lambda c1 apply normal");
        t.term(0, "2 2 13 11 11");
    }

    private static void putUnderProducts() {
        Talk t = new Talk(PUT, VEC + "c0 assume c0 assume c0 assume c0 assume c4 v1 apply product lambda v1 apply");
        t.answers("normal", 1);
        t.term(0, "4 10 2 14 102");
        t = new Talk(PUT, VEC + "c0 assume c4 v0 apply assume c0 assume c4 v2 apply product product lambda c1 apply");
        t.answers("normal", 1);
        t.term(0, "4 2 14 11 4 10 2 14 11");
        t = new Talk(PUT,
                VEC + "c0 assume c0 assume c4 v0 apply assume c0 assume c4 v2 apply product product lambda v0 apply");
        t.answers("normal", 1);
        t.term(0, "4 2 14 100 4 10 2 14 102");
        t = new Talk(PUT, VEC + "c0 assume c0 assume c0 assume c4 v2 apply product lambda lambda c1 apply");
        t.answers("normal", 1);
        t.term(0, "3 10 4 10 2 14 11");
    }

    private static void putWhatBinds() {
        String sentence = "Terms: each of its variables that a itself does not bind";
        String taken = TAKER + "c0 assume c0 assume c0 product assume c0 assume c4 v1 apply lambda lambda ";
        Talk t = new Talk(sentence, taken + "c0 assume c3 v0 apply v1 apply lambda apply");
        t.term(0, "2 3 4 10 10 3 10 2 14 101 3 10 2 2 13 100 101");
        t.answers("normal", 1);
        t.term(0, "3 10 2 14 3 10 2 2 13 100 102");
        // What a has in its domain is not bound by its own lambda.
        t = new Talk(sentence, NAT + TYPE_OF_NAT + "declare- "
                + "c0 assume c4 v0 apply assume c0 product assume c0 product product declare- "
                + "c0 assume c4 v0 apply assume c0 product assume c0 assume c5 v2 apply v1 apply lambda lambda "
                + "c4 v0 apply assume c1 lambda apply");
        t.answers("normal", 1);
        t.term(0, "3 10 2 2 15 101 3 2 14 101 11");
    }

    private static void putVariablesAbove() {
        String sentence = "Terms: and variables above d become one less";
        Talk t = new Talk(sentence, NAT + "c0 assume c0 assume v1 lambda c1 apply");
        t.term(0, "2 3 10 101 11");
        t.answers("normal", 1);
        t.term(0, "100");
        t = new Talk(sentence, NAT + "c0 assume c0 assume c0 assume v2 lambda lambda c1 apply normal");
        t.term(0, "3 10 101");
        t = new Talk(sentence, NAT + "c0 assume c0 assume c0 assume c0 assume v3 lambda lambda c1 apply normal");
        t.term(0, "3 10 102");
        // What the body binds itself stays.
        t = new Talk(sentence, NAT + "c0 assume c0 assume v0 lambda lambda c1 apply normal");
        t.term(0, "3 10 100");
        t = new Talk(sentence, NAT + "c0 assume c0 assume c0 assume v1 lambda lambda lambda c1 apply normal");
        t.term(0, "3 10 3 10 101");
    }

    private static void matches() {
        String sentence = "Terms: It MATCHES a term when that is the left side with a term for each of the variables "
                + "0 .. n - 1";
        Talk t = new Talk(sentence, NAT + "c0 declare+ c4 c1 rule c2 c4 apply");
        t.answers("normal", 1);
        t.term(0, "2 12 11");
        String four = NAT + "c0 assume ".repeat(4) + "c0 " + "product ".repeat(4) + "declare+ ";
        t = new Talk(sentence, four + "c0 assume ".repeat(4) + "c4 v3 apply v2 apply v1 apply v0 apply "
                + "c3 c3 v0 apply v2 apply apply c3 v1 apply v3 apply apply rule "
                + "c4 c1 apply c2 c1 apply apply c2 c2 c1 apply apply apply c2 c2 c2 c1 apply apply apply apply");
        t.answers("normal", 1);
        t.term(0, "2 2 13 2 2 13 2 12 2 12 2 12 11 2 12 11 2 2 13 2 12 2 12 11 11");
        // A term may be left out by the right side, and one may be a lambda, a variable or another application.
        t = new Talk(sentence, TAKER + "c0 assume c0 product assume c4 v0 apply c1 rule c4 c0 assume v0 lambda apply");
        t.answers("normal", 1);
        t.term(0, "11");
        t = new Talk(sentence, PLUS + "c3 c1 apply");
        t.answers("normal", 0);
        t = new Talk(sentence, PLUS + "c0 assume c3 v0 apply c1 apply");
        t.answers("normal", 0);
        t = new Talk(sentence, PLUS + "c3 c1 apply c1 apply");
        t.answers("normal", 1);
    }

    private static void results() {
        String sentence = "Terms: where d lambdas or products of the right side are around, variable d + j becomes the "
                + "term for j with d added to its variables that it does not bind itself";
        String three = NAT + "c0 assume ".repeat(3) + "c0 " + "product ".repeat(3) + "declare+ ";
        Talk t = new Talk(sentence, three + "c0 assume c0 assume c4 v1 apply v0 apply "
                + "c0 assume c3 v2 apply c3 v1 apply v0 apply apply lambda rule "
                + "c0 assume c0 assume c4 v0 apply v1 apply");
        t.rule(0, 2, "2 2 14 101 100", "3 10 2 2 13 102 2 2 13 101 100");
        t.answers("normal", 1);
        t.term(0, "3 10 2 2 13 101 2 2 13 102 100");
        // Right sides with d = 2, by lambdas and by products; a domain is not under its own product.
        t = new Talk(sentence, three + "c0 assume c4 v0 apply c0 assume c0 assume v2 lambda lambda rule "
                + "c0 assume ".repeat(4) + "c4 v3 apply");
        t.answers("normal", 1);
        t.term(0, "3 10 3 10 105");
        t = new Talk(sentence, NAT + TYPE_OF_NAT + "declare- " + TYPE_OF_NAT + "declare+ c0 assume c5 v0 apply "
                + "c4 v0 apply assume c4 v1 apply assume c4 v2 apply product product rule c0 assume c5 v0 apply");
        t.answers("normal", 1);
        t.term(0, "4 2 14 100 4 2 14 101 2 14 102");
        t = new Talk(sentence, NAT + "c0 assume c0 product assume c0 assume c0 product product declare+ "
                + "c0 assume c0 product assume c4 v0 apply c0 assume c2 v1 v0 apply apply lambda rule "
                + "c0 assume c4 c0 assume c0 assume c3 v1 apply v2 apply lambda c1 apply lambda apply");
        t.term(0, "2 14 3 10 2 3 10 2 2 13 101 102 11");
        t.answers("normal", 3);
        t.term(0, "3 10 2 12 2 2 13 100 101");
        t = new Talk(sentence, TAKER + "c0 assume c0 product assume c0 assume c0 product product declare+ "
                + "c0 assume c0 product assume c5 v0 apply c0 assume c4 v1 apply lambda rule "
                + "c0 assume c5 c0 assume c3 v0 apply v1 apply lambda apply");
        t.term(0, "2 15 3 10 2 2 13 100 101");
        t.answers("normal", 1);
        t.term(0, "3 10 2 14 3 10 2 2 13 100 102");
    }

    private static void redexes() {
        String sentence = "Terms: the application of a lambda to an argument";
        Talk t = new Talk(sentence, NAT + "c0 assume v0 lambda");
        t.answers("normal", 0);
        t = new Talk(sentence, TAKER + "c4 c0 assume v0 lambda apply");
        t.answers("normal", 0);
        t = new Talk(sentence, NAT + "c0 assume c0 assume v1 lambda lambda c1 apply c2 c1 apply apply");
        t.answers("normal", 2);
        t.term(0, "11");
        // What stands before the redex and what comes behind it stay.
        t = new Talk("Terms: (it becomes the body with the argument put for variable 0)",
                NAT + "c3 c0 assume c2 v0 apply lambda c1 apply apply c2 c2 c1 apply apply apply");
        t.answers("normal", 1);
        t.term(0, "2 2 13 2 12 11 2 12 2 12 11");
        t = new Talk("Terms: the result takes its place",
                NAT + FUNCTION + "c0 assume c4 v0 apply c2 v0 apply rule "
                        + "c3 c4 c1 apply apply c2 c2 c1 apply apply apply");
        t.answers("normal", 1);
        t.term(0, "2 2 13 2 12 11 2 12 2 12 11");
        sentence = "Terms: what a rule matches (the first rule that does";
        String any = "c0 assume c4 v0 apply c1 rule ";
        String zero = "c4 c1 apply c2 c1 apply rule ";
        t = new Talk(sentence, NAT + FUNCTION + any + zero + "c4 c1 apply normal");
        t.term(0, "11");
        t = new Talk(sentence, NAT + FUNCTION + zero + any + "c4 c1 apply normal");
        t.term(0, "2 12 11");
        t = new Talk(sentence, NAT + "c0 declare+ " + "c4 c4 rule ".repeat(7) + "c4 c1 rule c4");
        t.answers("normal", LONG);
        t = new Talk(sentence, NAT + "c0 declare+ c0 declare+ " + "c4 c4 rule ".repeat(7) + "c5 c1 rule c5");
        t.answers("normal", 1);
    }

    /** Each time another order would never come to an end. */
    private static void steps() {
        String sentence = "Terms: the one that begins leftmost";
        Talk t = new Talk(sentence, ENDLESS + "c0 assume c1 lambda c4 c1 apply apply");
        t.answers("normal", 1);
        t = new Talk(sentence, ENDLESS + "c0 assume c0 assume c3 v0 apply v1 apply v1 rule "
                + "c3 c4 c1 apply apply c1 apply");
        t.answers("normal", 1);
        t = new Talk(sentence, ENDLESS + "c0 assume c3 v0 apply c0 assume c1 lambda rule "
                + "c3 c1 apply c4 c1 apply apply");
        t.answers("normal", 2);
        t = new Talk(sentence, ENDLESS + "c0 assume c2 v0 apply lambda c4 c1 apply apply");
        t.answers("normal", LONG);
        // A redex in the function's row comes before one in the argument's.
        t = new Talk(sentence, ENDLESS + "c0 assume c0 assume c1 lambda lambda c1 apply c4 c1 apply apply");
        t.answers("normal", 2);
        // No left side begins with a lambda, so that both kinds never begin at one number: what lies closest is a rule
        // whose match begins with the argument of the lambda's redex.
        t = new Talk("Terms: if both kinds begin there, the lambda's", ENDLESS + "c0 assume c2 c1 apply lambda "
                + "c4 c1 apply apply");
        t.answers("normal", 1);
        t.term(0, succs(1));
    }

    private static void normalForm() {
        String sentence = "Terms: The NORMAL FORM is what is there when no redex is left";
        Talk t = new Talk(sentence, PLUS + "c3 c2 c1 apply apply c3 c1 apply c1 apply apply");
        t.answers("normal", 3);
        t.term(0, succs(1));
        t.answers("normal", 0);
        t.term(0, succs(1));
        t = new Talk(sentence, PLUS + "c0 assume c3 c1 apply v0 apply lambda");
        t.answers("normal", 1);
        t.term(0, "3 10 100");
        t = new Talk(sentence, VEC + "c4 c3 c1 apply c1 apply apply assume c4 c3 c1 apply c1 apply apply product");
        t.answers("normal", 2);
        t.term(0, "4 2 14 11 2 14 11");
    }

    private static void fiftySteps() {
        String sentence = "Terms: when more than 50 steps would be done";
        Talk t = new Talk(sentence, STEPS + FIFTY);
        t.answers("normal", 50);
        t.term(0, "11");
        t = new Talk(sentence, STEPS + FIFTY_ONE);
        t.answers("normal", LONG);
        t.term(0, "2 12 2 12 2 12 15");
        // Each of two terms has 50 steps of its own.
        t = new Talk(sentence, STEPS + FIFTY + FIFTY);
        t.answers("same", true);
        t = new Talk(sentence, STEPS + FIFTY + FIFTY_ONE);
        t.answers("same", LONG);
        t = new Talk(sentence, STEPS + FIFTY_ONE + FIFTY);
        t.answers("same", LONG);
    }

    /** A function from vec of the number to nat, in a context whose entry is vec of the number. */
    private static String functionOf(String number) {
        String vec = "c6 " + number + " apply assume ";
        return vec + vec + "c1 lambda ";
    }

    private static void fiftyStepsOfTypes() {
        String sentence = "Terms: when more than 50 steps would be done";
        Talk t = new Talk(sentence, STEPS + functionOf(FIFTY) + "v0");
        t.answers("apply", "done");
        t = new Talk(sentence, STEPS + functionOf(FIFTY_ONE) + "v0");
        t.answers("apply", LONG);
        t = new Talk(sentence, STEPS + "c6" + FIFTY_ONE + "apply assume c2 v0");
        t.answers("apply", LONG);
        t = new Talk(sentence, STEPS + "c6" + FIFTY + "apply assume c2 v0");
        t.answers("apply", ARGUMENT);
        t = new Talk(sentence, STEPS + "c6" + FIFTY + "apply declare+ c7 c7");
        t.answers("rule", 4);
        t = new Talk(sentence, STEPS + "c6" + FIFTY + "apply declare+ c7 c1");
        t.answers("rule", ARGUMENT);
        t.answers("drop drop c5 c7 rule", ARGUMENT);
        t = new Talk(sentence, STEPS + "c6" + FIFTY_ONE + "apply declare+ c7 c1");
        t.answers("rule", LONG);
        t.answers("drop drop c5 c7 rule", LONG);
    }

    private static void fortyNumbersInSteps() {
        String sentence = "Terms: or a row would have more than 40 numbers at any time";
        Talk t = new Talk(sentence, BIG + "c5 c2 c2 c2 c1 apply apply apply apply");
        t.answers("normal", 5);
        t.term(0, succs(19));
        t = new Talk(sentence, BIG + "c5 c2 c2 c2 c2 c1 apply apply apply apply apply");
        t.answers("normal", LONG);
        // A lambda's redex: plus x x for 17 numbers makes 37, for 19 it makes 41.
        String twice = BIG + "c0 assume c3 v0 apply v0 apply lambda ";
        t = new Talk(sentence, twice + "c4 c4 c1 apply apply normal apply");
        t.answers("normal", 1);
        t.term(0, "2 2 13 " + succs(8) + " " + succs(8));
        t = new Talk(sentence, twice + "c4 c4 c2 c1 apply apply apply normal apply");
        t.answers("normal", LONG);
        // c5 (plus x y) is x: the row has 39 or 43 numbers only between the two steps.
        String pairs = NAT + FUNCTION + "c0 assume c4 v0 apply c3 v0 apply v0 apply rule "
                + FUNCTION + "c0 assume c0 assume c5 c3 v0 apply v1 apply apply v0 rule "
                + FUNCTION + "c0 assume c6 v0 apply c2 c2 c2 c2 v0 apply apply apply apply rule ";
        t = new Talk(sentence, pairs + "c5 c4 c6 c6 c1 apply apply normal apply apply");
        t.answers("normal", 2);
        t.term(0, succs(8));
        t = new Talk(sentence, pairs + "c5 c4 c6 c6 c2 c1 apply apply apply normal apply apply");
        t.answers("normal", LONG);
        // What stands before the redex counts, and what comes behind it.
        String thirteen = "c4 c4 c4 c2 c1 apply apply apply apply normal ";
        t = new Talk(sentence, BIG + "c3 " + thirteen + "apply c4 c1 apply apply");
        t.answers("normal", 1);
        t.term(0, "2 2 13 " + succs(13) + " " + succs(4));
        t = new Talk(sentence, BIG + "c3 c4 c1 apply apply " + thirteen + "apply");
        t.answers("normal", 1);
        t.term(0, "2 2 13 " + succs(4) + " " + succs(13));
        t = new Talk(sentence, BIG + "c3" + SIXTEEN + "apply c4 c1 apply apply");
        t.answers("normal", LONG);
        t = new Talk(sentence, BIG + "c3 c4 c1 apply apply" + SIXTEEN + "apply");
        t.answers("normal", LONG);
    }

    private static void fortyNumbersInTypes() {
        String sentence = "Terms: or a row would have more than 40 numbers at any time";
        String one = "c5 c2 c1 apply apply";
        String two = "c5 c2 c2 c1 apply apply apply";
        String three = "c5 c2 c2 c2 c1 apply apply apply apply";
        Talk t = new Talk(sentence, BIG + three + " " + three);
        t.answers("same", true);
        t = new Talk(sentence, BIG + "c5 c4 c1 apply apply c1");
        t.answers("same", LONG);
        t.answers("drop drop c1 c5 c4 c1 apply apply same", LONG);
        t = new Talk(sentence, BIG_VEC + functionOf(one) + "v0");
        t.answers("apply", "done");
        t = new Talk(sentence, BIG_VEC + functionOf(two) + "v0");
        t.answers("apply", LONG);
        t = new Talk(sentence, BIG_VEC + "c6 " + two + " apply assume c2 v0");
        t.answers("apply", ARGUMENT);
        t = new Talk(sentence, BIG_VEC + "c6 " + three + " apply assume c2 v0");
        t.answers("apply", LONG);
        t = new Talk(sentence, BIG_VEC + "c6 " + two + " apply declare+ c7 c7");
        t.answers("rule", 2);
        t = new Talk(sentence, BIG_VEC + "c6 " + three + " apply declare+ c7 c1");
        t.answers("rule", LONG);
        t.answers("drop drop c4 c7 rule", LONG);
    }

    private static void fortyNumbersPutTogether() {
        String sentence = "Terms: also one that is put together below";
        String vec17 = "c6 c5 c2 c1 apply apply normal apply ";
        String vec18 = "c6 c5 c2 c2 c1 apply apply apply normal apply ";
        Talk t = new Talk(sentence, BIG + "c2 c5 c2 c2 c1 apply apply apply normal");
        t.answers("apply", "done");
        t.answers("drop c2" + NINETEEN + "apply", LONG);
        String pair = BIG + "c0 assume c0 assume sort product product declare- "
                + "c0 assume c6 v0 apply v0 apply product declare- ";
        t = new Talk(sentence, pair + "c7 c4 c4 c1 apply apply normal");
        t.answers("apply", "done");
        t.itsType(0, "2 2 16 " + succs(8) + " " + succs(8));
        t.answers("drop c7 c4 c4 c2 c1 apply apply apply normal apply", LONG);
        t = new Talk(sentence, BIG + "c0 assume c5 c2 c2 c1 apply apply apply normal");
        t.answers("lambda", "done");
        t.answers("drop c0 assume" + NINETEEN + "lambda", LONG);
        t = new Talk(sentence, BIG_VEC + vec17 + "declare- c0 assume c7");
        t.answers("lambda", "done");
        t.itsType(0, "4 10 2 16 " + succs(17));
        t = new Talk(sentence, BIG_VEC + vec18 + "declare- c0 assume c7");
        t.answers("lambda", LONG);
        t = new Talk(sentence, BIG_VEC + "c0 assume " + vec17);
        t.answers("product", "done");
        t.answers("drop c0 assume " + vec18 + "product", LONG);
        // The domain counts as the body does.
        t = new Talk(sentence, BIG_VEC + vec17 + "assume c1");
        t.answers("lambda", "done");
        t.answers("drop " + vec18 + "assume c1 lambda", LONG);
        t.answers("drop c0 product", LONG);
    }

    private static void context() {
        Talk t = new Talk("Terms: THE CONTEXT has at most 4 entries", NAT + "c0 assume c0 assume c0 assume");
        t.answers("c0 assume", "done");
        t.counts(0, 4, 4, 0);
        t.answers("c0 assume", ROOM);
        t.does("drop leave c0 assume");
        t.counts(0, 4, 4, 0);
        String vecs = VEC + "c0 assume c4 v0 apply assume c4 v1 apply assume c0 assume ";
        t = new Talk("Terms: entry 0 is the latest one", vecs);
        t.entry(0, "10");
        t.entry(1, "2 14 101");
        t.entry(2, "2 14 100");
        t.entry(3, "10");
        t = new Talk("Terms: entry i is understood with the entries before it", vecs + "v1 v2 v3");
        t.itsType(2, "2 14 103");
        t.itsType(1, "2 14 103");
        t.itsType(0, "10");
    }

    private static void stack() {
        String sentence = "Terms: THE STACK has at most 6 JUDGEMENTS";
        Talk t = new Talk(sentence, NAT + "c0 assume sort c0 v0 c0 sort");
        t.answers("sort", "done");
        t.counts(6, 1, 4, 0);
        t.answers("sort", ROOM);
        t.answers("c0", ROOM);
        t.answers("v0", ROOM);
        t.answers("drop c0", "done");
        t.answers("drop v0", "done");
        t.counts(6, 1, 4, 0);
        t = new Talk("Terms: each made with as many context entries as there were",
                NAT + "sort c0 assume c1 c0 assume c0 assume c0 assume v0");
        t.answers("made(0)", 4);
        t.answers("made(1)", 1);
        t.answers("made(2)", 0);
    }

    private static void present() {
        String sentence = "Terms: A judgement is PRESENT when it has as many as there are now";
        Talk t = new Talk(sentence, NAT + "c0 c0 assume");
        t.answers("assume", STATE);
        t.answers("leave assume", "done");
        t = new Talk(sentence, NAT + "c0 assume c0 c0 assume");
        t.answers("product", STATE);
        t.answers("leave product", "done");
        // However the entries above it come and go.
        t = new Talk(sentence, NAT + "sort declare- c2 c1 c0 assume leave c4 assume");
        t.answers("apply", STATE);
        t.answers("leave apply", "done");
    }

    private static void constants() {
        String sentence = "Terms: CONSTANTS 0 .. 7 have a type and may be DEFINABLE";
        Talk t = new Talk(sentence, "sort declare+ " + "c0 declare- ".repeat(6));
        t.answers("c0 declare+", 7);
        t.constant(0, 1, "0");
        t.constant(6, 0, "10");
        t.constant(7, 1, "10");
        t.answers("c0 declare+", ROOM);
        t.answers("drop c8", INDEX);
        t.answers("c7 c1 rule", 0);
        t.answers("c6 c1 rule", ARGUMENT);
    }

    private static void rules() {
        Talk t = new Talk("Terms: There are at most 8 rules", NAT + "c0 declare+ " + "c3 c3 rule ".repeat(7));
        t.answers("c4 c1 rule", 7);
        t.counts(0, 0, 5, 8);
        t.answers("c4 c1 rule", ROOM);
        t.answers("drop drop c4 normal", 1);
    }

    private static void exceptions() {
        Talk t = new Talk("Terms: IndexOutOfBoundsException: there is no such constant or variable", NAT);
        t.answers("c4", INDEX);
        t.answers("c0 assume v1", INDEX);
        t = new Talk("Terms: IllegalStateException: there are too few judgements", NAT);
        for (String word : Talk.split("apply assume lambda product declare+ rule normal same")) {
            t.answers(word, STATE);
        }
        t.does("c0 assume c0");
        for (String word : Talk.split("apply rule same")) {
            t.answers(word, STATE);
        }
        t = new Talk("Terms: or one that is needed is not present", NAT + "c0 c0 c0 assume");
        for (String word : Talk.split("apply assume lambda product rule")) {
            t.answers(word, STATE);
        }
        t = new Talk("Terms: or what is said of the context is not so", NAT + "c0");
        t.answers("lambda", STATE);
        t.answers("product", STATE);
        t.answers("drop c0 assume c0 declare-", STATE);
        t = new Talk("Terms: UnsupportedOperationException: there is no room (on the stack, in the context, for a "
                + "constant or rule)", "sort declare+ ".repeat(8) + "c0 c0 rule ".repeat(8));
        t.answers("c0 c0 rule", ROOM);
        t.answers("declare+", ROOM);
        t.answers("drop drop c0 assume c0 assume c0 assume c0 assume c0 assume", ROOM);
        t.answers("c0 c0 c0 c0 c0 c0", ROOM);
        t = new Talk("Terms: IllegalArgumentException: what is said of types or sides is not so", NAT + "c1 c1");
        for (String word : Talk.split("apply assume declare+ rule")) {
            t.answers(word, ARGUMENT);
        }
        t.answers("c0 assume c1 product", ARGUMENT);
        t.answers("drop sort lambda", ARGUMENT);
        t = new Talk("Terms: ArithmeticException: TOO LONG", LOOP + "c2 c0");
        t.answers("normal", LONG);
        t.answers("same", LONG);
        t.answers("drop drop c4 c1 apply", LONG);
        t.answers("drop drop c0 c1 rule", LONG);
    }

    private static void stateFirst() {
        String sentence = "Terms: Exceptions, in this order: IndexOutOfBoundsException";
        Talk t = new Talk(sentence, NAT + "c0 c0 c0 c0 c0 c0");
        t.answers("c4", INDEX);
        t.answers("c-1", INDEX);
        t.answers("v0", INDEX);
        sentence = "Terms: Exceptions, in this order";
        // IllegalStateException comes before UnsupportedOperationException ...
        t = new Talk(sentence, "sort declare+ ".repeat(8) + "c0 c0 rule ".repeat(8));
        t.answers("declare-", STATE);
        t.answers("rule", STATE);
        t.answers("c0 rule", STATE);
        t.answers("c0 c0 rule", STATE);
        t.answers("c0 assume rule", STATE);
        t.answers("declare-", STATE);
        t.answers("c0 declare-", STATE);
        t.answers("drop c0 assume c0 assume c0 assume assume", STATE);
        t.answers("drop drop drop assume", STATE);
        // ... and before IllegalArgumentException ...
        t = new Talk(sentence, NAT + "c1 c0 assume c1");
        t.answers("apply", STATE);
        t.answers("declare-", STATE);
        t.answers("rule", STATE);
        t.answers("drop assume", STATE);
        t.answers("product", STATE);
        t.answers("sort sort lambda", STATE);
        t.answers("c1 c1 product", STATE);
        t = new Talk(sentence, NAT + "sort");
        t.answers("lambda", STATE);
        t.answers("c1 product", STATE);
        // ... and before ArithmeticException.
        t = new Talk(sentence, LOOP + "c1 c2 assume c3");
        t.answers("apply", STATE);
        t = new Talk(sentence, LOOP + "c0 c2 assume c0");
        t.answers("same", STATE);
        t = new Talk(sentence, LOOP + "c0 c0 c1");
        t.answers("rule", STATE);
        t = new Talk(sentence, BIG + "c0 assume c1" + NINETEEN);
        t.answers("lambda", STATE);
        t = new Talk(sentence, BIG_VEC + "c0 assume c1 c6 c5 c2 c2 c1 apply apply apply normal apply");
        t.answers("product", STATE);
    }

    private static void roomBeforeArgument() {
        String sentence = "Terms: Exceptions, in this order";
        Talk t = new Talk(sentence, NAT + "c0 assume ".repeat(4));
        t.answers("c1 assume", ROOM);
        t.answers("sort assume", ROOM);
        t = new Talk(sentence, "sort declare+ " + "c0 declare+ ".repeat(7));
        t.answers("c1 declare+", ROOM);
        t = new Talk(sentence, NAT + "c3 c3 rule ".repeat(8));
        t.answers("c1 c1 rule", ROOM);
        t.answers("drop drop c3 c1 rule", ROOM);
        // UnsupportedOperationException comes before ArithmeticException too.
        t = new Talk(sentence, LOOP + "c0 c0 rule ".repeat(7));
        t.answers("c0 c1 rule", ROOM);
    }

    private static void argumentBeforeLong() {
        String sentence = "Terms: Exceptions, in this order";
        Talk t = new Talk(sentence, BIG + "c1" + NINETEEN);
        t.answers("apply", ARGUMENT);
        t = new Talk(sentence, BIG_VEC + "c0 assume c0 product assume c0 product declare- c7" + NINETEEN);
        t.answers("apply", ARGUMENT);
        t = new Talk(sentence, BIG_VEC + "c0 assume c6 c5 c2 c1 apply apply normal apply assume sort product");
        t.answers("lambda", ARGUMENT);
        t.answers("product", LONG);
        t = new Talk(sentence, BIG + "c0 assume" + NINETEEN);
        t.answers("product", ARGUMENT);
        t.answers("lambda", LONG);
        t = new Talk(sentence, LOOP + "c1 c1");
        t.answers("rule", ARGUMENT);
    }

    private static void whatIsLookedAtFirst() {
        String sentence = "Terms: what is looked at first counts, term by term as the text goes";
        // The lower type has no end; the upper one would not fit.
        Talk t = new Talk(sentence, LOOP + "c1 c4");
        t.answers("apply", LONG);
        // The lower type is no product; the upper one has no end.
        t = new Talk(sentence, LOOP + "c3 c1");
        t.answers("apply", ARGUMENT);
        t = new Talk(sentence, LOOP + "sort c1");
        t.answers("apply", ARGUMENT);
        // The lower type is a product; the upper one has no end, and so cannot be told from the domain.
        t = new Talk(sentence, LOOP + "c4 c1");
        t.answers("apply", LONG);
        // The left side is right; one of the types has no end.
        t = new Talk(sentence, LOOP + "c0 declare+ c5 c3");
        t.answers("rule", LONG);
        t = new Talk(sentence, LOOP + "c2 declare+ c5 c1");
        t.answers("rule", LONG);
        // The left side is not right; both types have no end.
        t = new Talk(sentence, LOOP + "c1 c1");
        t.answers("rule", ARGUMENT);
    }

    /** Each answer that is an exception is held against the state before; here the calls go on after it. */
    private static void changesNothing() {
        String sentence = "Terms: A call that throws changes nothing";
        Talk t = new Talk(sentence, STEPS + FIFTY_ONE);
        t.answers("normal", LONG);
        t.answers("normal", LONG);
        t.answers("drop" + FIFTY + "normal", 50);
        t = new Talk(sentence, BIG + "c2" + NINETEEN);
        t.answers("apply", LONG);
        t.answers("drop c1 apply", "done");
        t.term(0, succs(1));
        t.itsType(0, "10");
        t = new Talk(sentence, BIG + "c0 assume" + NINETEEN);
        t.answers("lambda", LONG);
        t.answers("drop v0 lambda", "done");
        t.term(0, "3 10 100");
        t = new Talk(sentence, NAT + "c3 c2");
        t.answers("rule", ARGUMENT);
        t.answers("drop c3 rule", 0);
        t = new Talk(sentence, NAT + "c1");
        t.answers("declare+", ARGUMENT);
        t.answers("c0 declare-", 4);
        t.constant(4, 0, "10");
        t = new Talk(sentence, NAT + "sort sort sort sort sort sort");
        t.answers("c0", ROOM);
        t.term(0, "0");
        t.itsType(0, "1");
    }
}
