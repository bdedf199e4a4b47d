/**
 * The document's promises where they name a boundary: each test bears the words that it holds the class to, and begins
 * on a new object. What the section "Terms" says of all promises is in TermsBoundaryTest.
 */
public final class PromiseBoundaryTest extends Beginnings {
    private static final int LEAST = Integer.MIN_VALUE;
    private static final int MOST = Integer.MAX_VALUE;

    public static void main(String[] args) {
        newObject();
        sort();
        constant();
        variable();
        variableType();
        applyJudgements();
        applyTypes();
        applyResult();
        assume();
        lambda();
        lambdaResult();
        product();
        productResult();
        declare();
        ruleJudgements();
        ruleHead();
        rulePatterns();
        ruleVariables();
        ruleTypes();
        ruleResult();
        normal();
        same();
        drop();
        leave();
        counts();
        judgement();
        made();
        entry();
        type();
        side();
        Talk.end("PromiseBoundaryTest");
    }

    private static void newObject() {
        String sentence = "TypeKernel: Nothing on the stack, no context, no constants, no rules";
        Talk used = new Talk(sentence, "sort declare+ c0 c0 rule c0 assume sort v0");
        Talk t = new Talk(sentence, "");
        t.answers("counts", 0);
        t.answers("made(0)", -1);
        t.answers("judgement(0,false,0)", -1);
        t.answers("judgement(0,true,0)", -1);
        t.answers("entry(0,0)", -1);
        t.answers("type(0,0)", -1);
        t.answers("type(0,-1)", -1);
        t.answers("side(0,false,0)", -1);
        t.answers("side(0,true,-1)", -1);
        t.answers("drop", false);
        t.answers("leave", false);
        t.answers("c0", INDEX);
        t.answers("v0", INDEX);
        for (String word : Talk.split("apply assume lambda product declare+ declare- rule normal same")) {
            t.answers(word, STATE);
        }
        used.counts(2, 1, 1, 1);
    }

    private static void sort() {
        Talk t = new Talk("sort: TYPE, whose type is KIND, comes on the stack", "sort sort sort sort sort");
        t.answers("sort", "done");
        t.counts(6, 0, 0, 0);
        t.term(0, "0");
        t.itsType(0, "1");
        t.answers("sort", ROOM);
        t.answers("drop sort", "done");
        t.answers("sort", ROOM);
    }

    private static void constant() {
        String sentence = "constant: Constant c with its type comes on the stack";
        Talk t = new Talk(sentence, "sort declare- c0 declare- c0 assume sort product declare+ ");
        t.answers("c3", INDEX);
        t.answers("c-1", INDEX);
        t.answers("c" + LEAST, INDEX);
        t.answers("c" + MOST, INDEX);
        t.answers("c2", "done");
        t.term(0, "12");
        t.itsType(0, "4 10 0");
        t.answers("c0", "done");
        t.term(0, "10");
        t.itsType(0, "0");
        t.does("c0 c0 c0");
        t.answers("c1", "done");
        t.term(0, "11");
        t.itsType(0, "10");
        t.answers("c1", ROOM);
        t.answers("c3", INDEX);
        t = new Talk(sentence, "sort declare- ".repeat(8));
        t.answers("c8", INDEX);
        t.answers("c7", "done");
        t.term(0, "17");
    }

    private static void variable() {
        String sentence = "variable: Variable i of the context comes on the stack";
        Talk t = new Talk(sentence, NAT + "sort declare- c4 assume");
        t.answers("v1", INDEX);
        t.answers("v-1", INDEX);
        t.answers("v" + LEAST, INDEX);
        t.answers("v" + MOST, INDEX);
        t.answers("v0", "done");
        t.term(0, "100");
        t.itsType(0, "14");
        t.does("c0 assume c0 assume c0 assume");
        t.answers("v4", INDEX);
        t.answers("v3", "done");
        t.term(0, "103");
        t.itsType(0, "14");
        t.does("v2 v1 v0");
        t.itsType(0, "10");
        t.answers("v0 v0", ROOM);
        t.answers("v4", INDEX);
        t.answers("drop drop drop drop drop drop leave v3", INDEX);
    }

    private static void variableType() {
        String sentence = "variable: its type being entry i with i + 1 added to each variable";
        Talk t = new Talk(sentence, VEC + "c0 assume c4 v0 apply assume v0");
        t.entry(0, "2 14 100");
        t.itsType(0, "2 14 101");
        t = new Talk(sentence, VEC + "c0 assume c4 v0 apply assume c0 assume c0 assume v2");
        t.itsType(0, "2 14 103");
        t = new Talk(sentence, VEC + "c0 assume c0 assume c0 assume c4 v2 apply assume v0");
        t.itsType(0, "2 14 103");
        sentence = "variable: that the entry does not bind itself";
        t = new Talk(sentence, VEC + "c0 assume c0 assume c4 v0 apply product assume v0");
        t.itsType(0, "4 10 2 14 100");
        t = new Talk(sentence, VEC + "c0 assume c0 assume c4 v1 apply product assume v0");
        t.itsType(0, "4 10 2 14 102");
        t = new Talk(sentence, VEC + "c0 assume c4 v0 apply assume c4 v1 apply product assume c0 assume v1");
        t.entry(1, "4 2 14 100 2 14 101");
        t.itsType(0, "4 2 14 102 2 14 103");
        t = new Talk(sentence, VEC + "c0 assume c0 assume c4 v0 apply assume c4 v1 apply product product assume v0");
        t.itsType(0, "4 10 4 2 14 100 2 14 101");
    }

    private static void applyJudgements() {
        String sentence = "apply: Of the two uppermost judgements (both present)";
        Talk t = new Talk(sentence, NAT);
        t.answers("apply", STATE);
        t.answers("c2 apply", STATE);
        t.answers("c1 apply", "done");
        t.counts(1, 0, 4, 0);
        t = new Talk(sentence, NAT + "sort c0 c1 sort c2 c1");
        t.answers("apply", "done");
        t.counts(5, 0, 4, 0);
        t.term(1, "0");
        t.term(2, "11");
        t = new Talk(sentence, NAT + "c2 c0 assume c1");
        t.answers("apply", STATE);
        t.answers("drop v0 apply", STATE);
        t = new Talk(sentence, NAT + "c2 c1 c0 assume");
        t.answers("apply", STATE);
        t.answers("leave apply", "done");
        t = new Talk(sentence, NAT + "c1 c0 assume c2 c1");
        t.answers("apply", "done");
        t.answers("made(0)", 1);
    }

    private static void applyTypes() {
        String sentence = "apply: the lower one's type has a normal form that is a product";
        Talk t = new Talk(sentence, NAT + "sort c1");
        t.answers("apply", ARGUMENT);
        t.answers("drop drop c0 c1 apply", ARGUMENT);
        t.answers("drop drop c1 c1 apply", ARGUMENT);
        t.answers("drop drop c2 c1 apply c1 apply", ARGUMENT);
        t = new Talk(sentence, VEC + "c5 c1");
        t.answers("apply", ARGUMENT);
        // An application is no product, however the upper one's type, which has no end, would go on.
        t = new Talk(sentence, LOOP + "c2 assume sort product declare- c5 c3 apply declare- c6 c1");
        t.itsType(1, "2 15 13");
        t.answers("apply", ARGUMENT);
        // The type is a constant that becomes a product.
        t = new Talk(sentence, NAT + "sort declare+ c4 declare- c4 c0 assume c0 product rule c5 c1");
        t.itsType(1, "14");
        t.answers("apply", "done");
        t.itsType(0, "10");
        // The type is the application of a constant, or of a lambda, that becomes a product.
        t = new Talk(sentence, NAT + TYPE_OF_NAT + "declare+ c0 assume c4 v0 apply c0 assume c0 product rule "
                + "c4 c1 apply declare- c5 c1");
        t.answers("apply", "done");
        t.itsType(0, "10");
        t = new Talk(sentence, NAT + "c0 assume c0 assume c0 product lambda c1 apply assume v0 c1");
        t.itsType(1, "2 3 10 4 10 10 11");
        t.answers("apply", "done");
        t.itsType(0, "10");
        sentence = "apply: whose domain has the same normal form as the upper one's type";
        t = new Talk(sentence, VEC + "c6 c1 apply c5");
        t.answers("apply", "done");
        t = new Talk(sentence, VEC + "c6 c2 c1 apply apply c5");
        t.answers("apply", ARGUMENT);
        t = new Talk(sentence, VEC + "c6 c3 c1 apply c1 apply apply c5");
        t.answers("apply", "done");
        t = new Talk(sentence, VEC + "c4 c3 c1 apply c1 apply apply assume c6 c1 apply v0");
        t.answers("apply", "done");
        t = new Talk(sentence, VEC + "c4 c3 c2 c1 apply apply c1 apply apply assume c6 c1 apply v0");
        t.answers("apply", ARGUMENT);
        t = new Talk(sentence, NAT + "c2 c2");
        t.answers("apply", ARGUMENT);
        t.answers("drop c0 apply", ARGUMENT);
        t.answers("drop sort apply", ARGUMENT);
        sentence = "apply: (first the one, then the other is brought to it)";
        t = new Talk(sentence, LOOP + "c3 c1");
        t.answers("apply", ARGUMENT);
        t.answers("drop drop c1 c3 apply", LONG);
        t.answers("drop drop c4 c1 apply", LONG);
    }

    private static void applyResult() {
        String sentence = "apply: the application of the lower one's term to the upper one's takes their place";
        Talk t = new Talk(sentence, PLUS + "c3 c1 apply c3 c1 apply c1 apply");
        t.answers("apply", "done");
        t.term(0, "2 2 13 11 2 2 13 11 11");
        t = new Talk(sentence, BIG + "c2 c5 c2 c2 c1 apply apply apply normal");
        t.answers("apply", "done");
        t.term(0, succs(19));
        t.answers("drop c2" + NINETEEN + "apply", LONG);
        sentence = "apply: its type being the body of that product with the upper one's term put for variable 0";
        // The product is the normal form, the term is as it was; what comes of both is not brought to a normal form.
        t = new Talk(sentence, VEC + "c6 c3 c1 apply c1 apply apply");
        t.itsType(0, "4 2 14 2 2 13 11 11 2 14 2 12 2 2 13 11 11");
        t.answers("c5 apply", "done");
        t.itsType(0, "2 14 2 12 11");
        t = new Talk(sentence, VEC + "c0 assume c0 assume c6 v1 apply");
        t.itsType(0, "4 2 14 101 2 14 2 12 102");
        t = new Talk(sentence, VEC + "c0 assume c0 assume c4 v1 apply assume c2 v2 apply lambda");
        t.itsType(0, "4 2 14 101 10");
        t = new Talk(sentence, VEC + "c0 assume c4 v0 apply assume c0 assume v1 lambda c1 apply");
        t.itsType(0, "2 14 101");
    }

    private static void assume() {
        String sentence = "assume: The uppermost judgement (present)";
        Talk t = new Talk(sentence, NAT);
        t.answers("assume", STATE);
        t.answers("c0 c0 assume", "done");
        t.counts(1, 1, 4, 0);
        t.answers("assume", STATE);
        t.answers("leave assume", "done");
        sentence = "assume: whose type is TYPE";
        t = new Talk(sentence, NAT);
        t.answers("sort assume", ARGUMENT);
        t.answers("c1 assume", ARGUMENT);
        t.answers("c2 assume", ARGUMENT);
        t.answers("drop drop drop c0 assume sort product assume", ARGUMENT);
        t.answers("drop c0 assume c0 product assume", "done");
        t.entry(0, "4 10 10");
        sentence = "assume: goes, and its term is a new context entry";
        t = new Talk(sentence, VEC + "c1 c0 assume c4 v0 apply assume c4 v1 apply assume c0");
        t.answers("assume", "done");
        t.counts(1, 4, 7, 2);
        t.term(0, "11");
        t.entry(0, "10");
        t.entry(1, "2 14 101");
        t.entry(2, "2 14 100");
        t.entry(3, "10");
        t.entry(4, "");
        t.answers("c0 assume", ROOM);
        t.answers("drop leave c4 v2 apply assume", "done");
        t.entry(0, "2 14 102");
    }

    private static void lambda() {
        String sentence = "lambda: (present, the only one so, with a context entry at least)";
        Talk t = new Talk(sentence, NAT);
        t.answers("lambda", STATE);
        t.answers("c1 lambda", STATE);
        t.answers("c0 assume lambda", STATE);
        t.answers("v0 v0 lambda", STATE);
        t.answers("drop lambda", "done");
        t.counts(2, 0, 4, 0);
        t.answers("lambda", STATE);
        t = new Talk(sentence, NAT + "c1 c0 assume c1 c0 assume c1");
        t.answers("lambda", "done");
        // What became of it is present now beside the one that was made with one entry before.
        t.answers("lambda", STATE);
        t = new Talk(sentence, NAT + "c0 assume c0 assume c0 assume c0 assume v3");
        t.answers("lambda", "done");
        t.answers("lambda", "done");
        t.answers("lambda", "done");
        t.answers("lambda", "done");
        t.term(0, "3 10 3 10 3 10 3 10 103");
        t.answers("lambda", STATE);
        sentence = "lambda: whose type is not KIND";
        t = new Talk(sentence, NAT + "c0 assume sort");
        t.answers("lambda", ARGUMENT);
        t.answers("drop c0 assume sort product lambda", ARGUMENT);
        t.answers("drop c0 lambda", "done");
        t.term(0, "3 10 10");
        t.itsType(0, "4 10 0");
    }

    private static void lambdaResult() {
        String sentence = "lambda: the latest entry goes out of the context, and the judgement becomes the lambda with "
                + "that entry as domain and the term as body, its type the product alike with its type";
        Talk t = new Talk(sentence, VEC + "c0 assume c4 v0 apply assume v0");
        t.answers("lambda", "done");
        t.term(0, "3 2 14 100 100");
        t.itsType(0, "4 2 14 100 2 14 101");
        t.answers("made(0)", 1);
        t.counts(1, 1, 7, 2);
        t.entry(0, "10");
        t = new Talk(sentence, BIG + "c0 assume c5 c2 c2 v0 apply apply apply normal");
        t.answers("lambda", "done");
        t.term(0, "3 10 " + "2 12 ".repeat(18) + "100");
        t.answers("drop c0 assume c5 c2 c2 c2 v0 apply apply apply apply normal lambda", LONG);
        t = new Talk(sentence, BIG_VEC + "c6 c5 c2 c1 apply apply normal apply declare- c0 assume c7");
        t.answers("lambda", "done");
        t.itsType(0, "4 10 2 16 " + succs(17));
        t = new Talk(sentence, BIG_VEC + "c6 c5 c2 c2 c1 apply apply apply normal apply declare- c0 assume c7");
        t.answers("lambda", LONG);
    }

    private static void product() {
        String sentence = "product: (present, the only one so, with a context entry at least)";
        Talk t = new Talk(sentence, NAT);
        t.answers("product", STATE);
        t.answers("c0 product", STATE);
        t.answers("c0 assume product", STATE);
        t.answers("c0 c0 product", STATE);
        t.answers("drop product", "done");
        t.counts(2, 0, 4, 0);
        t.answers("product", STATE);
        t = new Talk(sentence, NAT + "c0 c0 assume c0 c0 assume c0");
        t.answers("product", "done");
        t.answers("product", STATE);
        t = new Talk(sentence, VEC + "c0 assume c0 assume c0 assume c0 assume c4 v3 apply");
        t.answers("product", "done");
        t.answers("product", "done");
        t.answers("product", "done");
        t.answers("product", "done");
        t.term(0, "4 10 4 10 4 10 4 10 2 14 103");
        t.answers("product", STATE);
        sentence = "product: whose type is TYPE or KIND";
        t = new Talk(sentence, NAT + "c0 assume v0");
        t.answers("product", ARGUMENT);
        t.answers("drop c2 product", ARGUMENT);
        t.answers("drop c0 product", "done");
        t.itsType(0, "0");
        t.answers("drop c0 assume sort product", "done");
        t.itsType(0, "1");
        t = new Talk(sentence, NAT + TYPE_OF_NAT + "declare- c0 assume c4");
        t.itsType(0, "4 10 0");
        t.answers("product", ARGUMENT);
    }

    private static void productResult() {
        String sentence = "product: the latest entry goes out of the context, and the judgement becomes the product "
                + "with that entry as domain and the term as body, its type as before";
        Talk t = new Talk(sentence, VEC + "c0 assume c4 v0 apply assume c4 v1 apply");
        t.answers("product", "done");
        t.term(0, "4 2 14 100 2 14 101");
        t.itsType(0, "0");
        t.answers("made(0)", 1);
        t.counts(1, 1, 7, 2);
        t.entry(0, "10");
        t = new Talk(sentence, BIG_VEC + "c0 assume c6 c5 c2 c1 apply apply normal apply");
        t.answers("product", "done");
        t.term(0, "4 10 2 16 " + succs(17));
        t.answers("drop c0 assume c6 c5 c2 c2 c1 apply apply apply normal apply product", LONG);
    }

    private static void declare() {
        String sentence = "declare: With no context";
        Talk t = new Talk(sentence, NAT + "c0 assume c0");
        t.answers("declare-", STATE);
        t.answers("drop leave c0 c0 assume declare-", STATE);
        t.answers("leave declare-", 4);
        sentence = "declare: the uppermost judgement, whose type is TYPE or KIND, goes";
        t = new Talk(sentence, NAT);
        t.answers("declare-", STATE);
        t.answers("c1 declare-", ARGUMENT);
        t.answers("c2 declare-", ARGUMENT);
        t.answers("c0 declare-", 4);
        t.answers("sort declare-", 5);
        t.counts(2, 0, 6, 0);
        t.answers(TYPE_OF_NAT + "declare-", 6);
        t.answers("c6 declare-", ARGUMENT);
        sentence = "declare: its term is the type of a new constant; answers its number";
        t = new Talk(sentence, "");
        t.answers("sort declare+", 0);
        t.constant(0, 1, "0");
        for (int c = 1; c < 7; c++) {
            t.answers("c0 declare-", c);
        }
        t.constant(6, 0, "10");
        t.answers("c0 assume c0 product declare+", 7);
        t.constant(7, 1, "4 10 10");
        t.answers("c0 declare+", ROOM);
        t.constant(8, -1, "");
    }

    private static void ruleJudgements() {
        String sentence = "rule: The two uppermost judgements, both present, and no others on the stack";
        Talk t = new Talk(sentence, NAT);
        t.answers("rule", STATE);
        t.answers("c3 rule", STATE);
        t.answers("c3 c3 rule", STATE);
        t.answers("drop rule", 0);
        t = new Talk(sentence, NAT + "sort c0 assume c3 v0 apply c2");
        t.answers("rule", STATE);
        t = new Talk(sentence, NAT + "c3 c0 assume c3");
        t.answers("rule", STATE);
        t = new Talk(sentence, NAT + "c3 c3 c0 assume");
        t.answers("rule", STATE);
        t.answers("leave rule", 0);
        t = new Talk(sentence, NAT + "c0 assume c3 v0 apply c2");
        t.answers("rule", 0);
    }

    private static void leftSide(String sentence, String words, Object due) {
        new Talk(sentence, words).answers("rule", due);
    }

    private static void ruleHead() {
        String sentence = "rule: The left side has to be a definable constant, or one applied";
        leftSide(sentence, NAT + "c3 c3", 0);
        leftSide(sentence, NAT + "c3 c1 apply c2", 0);
        leftSide(sentence, NAT + "c2 c2", ARGUMENT);
        leftSide(sentence, NAT + "c2 c1 apply c1", ARGUMENT);
        leftSide(sentence, NAT + "c2 c3 c1 apply c1 apply apply c1", ARGUMENT);
        leftSide(sentence, NAT + "sort sort", ARGUMENT);
        leftSide(sentence, NAT + "c0 assume v0 v0", ARGUMENT);
        leftSide(sentence, NAT + "c0 assume v0 lambda c2", ARGUMENT);
        leftSide(sentence, NAT + "c0 assume c0 product c0", ARGUMENT);
        leftSide(sentence, NAT + "c0 assume v0 lambda c1 apply c1", ARGUMENT);
        leftSide(sentence, NAT + "c0 assume c0 product assume v0 c1 apply c1", ARGUMENT);
        sentence = "rule: applied to any number of PATTERNS";
        String five = NAT + "c0 assume c0 assume c0 product product assume c0 assume c0 assume c0 assume "
                + "c0 product product product product declare+ ";
        leftSide(sentence, NAT + "c3 c1 apply c2", 0);
        leftSide(sentence, NAT + "c3 c1 apply c1 apply c1", 0);
        leftSide(sentence, five + "c4 c3 apply c1 apply c1 apply c1 apply c1", 0);
    }

    private static void rulePatterns() {
        String sentence = "rule: variables, constants, or constants applied to patterns";
        leftSide(sentence, NAT + "c0 assume c3 v0 apply c2", 0);
        leftSide(sentence, NAT + "c3 c1 apply c2", 0);
        leftSide(sentence, NAT + "c3 c2 c1 apply apply c2", 0);
        leftSide(sentence, NAT + "c0 assume c3 c2 c2 v0 apply apply apply c2", 0);
        leftSide(sentence, NAT + "c0 assume c0 assume c3 c3 v0 apply v1 apply apply c2", 0);
        leftSide(sentence, TAKER + "c4 c2 apply c1", 0);
        leftSide(sentence, TAKER + "c4 c3 c1 apply apply c1", 0);
        leftSide(sentence, TAKER + "c0 assume c0 product assume c4 v0 apply c1", 0);
        leftSide(sentence, TAKER + "c4 c0 assume v0 lambda apply c1", ARGUMENT);
        leftSide(sentence, TAKER + "c4 c3 c0 assume v0 lambda c1 apply apply apply c1", ARGUMENT);
        leftSide(sentence, TAKER + "c0 assume c0 product assume c3 v0 c1 apply apply c2", ARGUMENT);
        leftSide(sentence, TAKER + "c0 assume c0 assume c0 product product assume c3 v0 c1 apply c1 apply apply c2",
                ARGUMENT);
        leftSide(sentence, TAKER + "c0 assume c0 product assume c3 c2 v0 c1 apply apply apply c2", ARGUMENT);
    }

    private static void ruleVariables() {
        String sentence = "rule: each variable of the context stands in it just once";
        leftSide(sentence, NAT + "c0 assume c3 c3", ARGUMENT);
        leftSide(sentence, NAT + "c0 assume c3 v0 apply c2", 0);
        leftSide(sentence, NAT + "c0 assume c3 v0 apply v0 apply v0", ARGUMENT);
        leftSide(sentence, NAT + "c0 assume c0 assume c3 v0 apply v1 apply v0", 0);
        leftSide(sentence, NAT + "c0 assume c0 assume c3 v0 apply c2", ARGUMENT);
        leftSide(sentence, NAT + "c0 assume c0 assume c3 v1 apply c2", ARGUMENT);
        leftSide(sentence, NAT + "c0 assume c0 assume c3 v1 apply v1 apply v1", ARGUMENT);
        String four = NAT + "c0 assume ".repeat(4) + "c3 c3 v3 apply v2 apply apply ";
        leftSide(sentence, four + "c3 v1 apply v0 apply apply c1", 0);
        leftSide(sentence, four + "c3 v1 apply v2 apply apply c1", ARGUMENT);
        leftSide(sentence, four + "c3 v1 apply c1 apply apply c1", ARGUMENT);
        leftSide(sentence, four + "c3 c1 apply v0 apply apply c1", ARGUMENT);
        // A longer term that stood in the same place before does not count.
        leftSide(sentence, NAT + "c0 assume c3 v0 apply v0 apply drop c3 v0 apply c2", 0);
        // Right sides may have a variable more than once, and need not have it.
        leftSide(sentence, NAT + "c0 assume c3 v0 apply c1 apply c3 v0 apply v0 apply", 0);
        leftSide(sentence, NAT + "c0 assume c3 v0 apply c1 apply c1", 0);
    }

    private static void ruleTypes() {
        String sentence = "rule: Their types have the same normal form (the lower one's is made first)";
        Talk t = new Talk(sentence, NAT + "c3 c2");
        t.answers("rule", ARGUMENT);
        t.answers("drop drop c3 c1 apply c2 rule", 0);
        t = new Talk(sentence, VEC + "c4 c3 c1 apply c1 apply apply declare+");
        t.answers("c7 c5 rule", 2);
        t = new Talk(sentence, VEC + "c4 c2 c1 apply apply declare+");
        t.answers("c7 c5 rule", ARGUMENT);
        t = new Talk(sentence, VEC + "c4 c1 apply declare+ c7 c6 c1 apply c5 apply");
        t.answers("rule", ARGUMENT);
        t = new Talk(sentence, PLUS + TYPE_OF_NAT + "declare- c4 c1 apply declare+ "
                + "c4 c3 c1 apply c1 apply apply declare+");
        t.answers("c5 c6 rule", 2);
        t.answers("c6 c5 rule", 3);
        t = new Talk(sentence, LOOP + "c0 declare+ c5 c3");
        t.answers("rule", LONG);
        t = new Talk(sentence, LOOP + "c2 declare+ c5 c1");
        t.answers("rule", LONG);
    }

    private static void ruleResult() {
        Talk t = new Talk("rule: the lower one's term is the left side of a new rule, the upper one's the right side, "
                + "the context's entries are its variables", NAT + "c0 assume c0 assume c3 v0 apply v1 apply v1");
        t.answers("rule", 0);
        t.rule(0, 2, "2 2 13 100 101", "101");
        t.answers("c3 c3 rule", 1);
        t.rule(1, 0, "13", "13");
        // The sides are kept as they are, redexes and all.
        t.answers("c3 c1 apply c1 apply c3 c1 apply c1 apply rule", 2);
        t.rule(2, 0, "2 2 13 11 11", "2 2 13 11 11");
        t = new Talk("rule: Both judgements and all of the context go; answers the rule's number", NAT
                + "c0 assume ".repeat(4) + "c3 c3 v3 apply v2 apply apply c3 v1 apply v0 apply apply c1");
        t.answers("rule", 0);
        t.counts(0, 0, 4, 1);
        t.rule(0, 4, "2 2 13 2 2 13 103 102 2 2 13 101 100", "11");
        t.entry(0, "");
        for (int r = 1; r < 8; r++) {
            t.answers("c3 c3 rule", r);
        }
        t.counts(0, 0, 4, 8);
        t.answers("c3 c3 rule", ROOM);
        t.rule(8, -1, "", "");
    }

    private static void normal() {
        Talk t = new Talk("normal: The uppermost judgement's term becomes its normal form; answers how many steps that "
                + "took", STEPS + FIFTY + "c1" + FIFTY);
        t.answers("normal", 50);
        t.term(0, "11");
        t.itsType(0, "10");
        t.answers("normal", 0);
        t.answers("drop normal", 0);
        t.answers("drop normal", 50);
        t = new Talk("normal: The uppermost judgement's term becomes its normal form",
                VEC + "c6 c3 c1 apply c1 apply apply");
        t.answers("normal", 1);
        t.term(0, "2 16 11");
        t.itsType(0, "4 2 14 2 2 13 11 11 2 14 2 12 2 2 13 11 11");
        t = new Talk("normal: IllegalStateException when there is none (it need not be present)", PLUS);
        t.answers("normal", STATE);
        t.answers("c0 assume normal", STATE);
        t.answers("c3 c1 apply v0 apply c0 assume normal", 1);
        t.term(0, "100");
        t.answers("made(0)", 1);
        t.answers("drop normal", STATE);
    }

    private static void same() {
        String sentence = "same: the two uppermost judgements (made with as many context entries)";
        Talk t = new Talk(sentence, NAT);
        t.answers("same", STATE);
        t.answers("c1 same", STATE);
        t.answers("c1 same", true);
        t.answers("c0 assume same", true);
        t.answers("c1 same", STATE);
        t.answers("c1 same", true);
        t.answers("leave", false);
        t.answers("lambda", STATE);
        sentence = "same: have the same normal form; the lower one's is made first";
        t = new Talk(sentence, PLUS + "c3 c1 apply c1 apply c1");
        t.answers("same", true);
        t.term(1, "2 2 13 11 11");
        t.term(0, "11");
        t.answers("c3 c1 apply c1 apply same", true);
        t.answers("c2 c1 apply same", false);
        t.answers("c2 same", false);
        t.answers("drop drop drop c2 same", false);
        t = new Talk(sentence, LOOP + "c0 c2");
        t.answers("same", LONG);
        t.answers("drop drop c2 c0 same", LONG);
        t.answers("c0 same", LONG);
    }

    private static void drop() {
        Talk t = new Talk("drop: The uppermost judgement goes: true", NAT + "c1 c0");
        t.answers("drop", true);
        t.counts(1, 0, 4, 0);
        t.term(0, "11");
        t.answers("c0 assume drop", true);
        t.counts(0, 1, 4, 0);
        t = new Talk("drop: False when there is none", "sort drop");
        t.answers("drop", false);
        t.answers("drop", false);
        t.answers("sort drop", true);
        t.answers("drop", false);
        t = new Talk("drop: The uppermost judgement goes: true", "sort sort sort sort sort sort");
        for (int k = 5; k >= 0; k--) {
            t.answers("drop", true);
            t.counts(k, 0, 0, 0);
        }
    }

    private static void leave() {
        Talk t = new Talk("leave: The latest context entry goes: true",
                VEC + "c0 assume c4 v0 apply assume c0 assume c4 v2 apply assume");
        t.answers("leave", true);
        t.counts(0, 3, 7, 2);
        t.entry(0, "10");
        t.answers("leave", true);
        t.entry(0, "2 14 100");
        t.answers("leave", true);
        t.answers("leave", true);
        t.counts(0, 0, 7, 2);
        t.answers("leave", false);
        String sentence = "leave: False when there is none, or some judgement is present";
        t = new Talk(sentence, NAT);
        t.answers("leave", false);
        t.answers("c1 leave", false);
        t.answers("c0 assume leave", true);
        t.answers("c0 assume v0 leave", false);
        t.answers("v0 leave", false);
        t.answers("drop leave", false);
        t.answers("drop leave", true);
        t.answers("c0 assume v0 c0 assume leave", true);
        t.answers("leave", false);
        t.counts(2, 1, 4, 0);
    }

    private static void counts() {
        String sentence = "counts: How many judgements there are, plus 8 times how many context entries, plus 64 times "
                + "how many constants, plus 1024 times how many rules";
        Talk t = new Talk(sentence, "");
        t.answers("counts", 0);
        t.does("sort");
        t.answers("counts", 1);
        t.does("declare+");
        t.answers("counts", 64);
        t.does("c0 assume");
        t.answers("counts", 72);
        t.does("leave c0 c0 rule");
        t.answers("counts", 1088);
        t = new Talk(sentence, "sort declare+ ".repeat(8) + "c0 c0 rule ".repeat(8) + "c0 assume ".repeat(4)
                + "sort ".repeat(6));
        t.answers("counts", 6 + 32 + 512 + 8192);
    }

    private static void judgement() {
        String six = NAT + "sort c0 c1 sort c2 c0 assume c0 product ";
        Talk t = new Talk("judgement: Number i of the row of judgement k's term (k = 0 the uppermost one), or of its "
                + "type", six);
        t.answers("judgement(0,false,0)", 4);
        t.answers("judgement(0,false,2)", 10);
        t.answers("judgement(0,true,0)", 0);
        t.answers("judgement(1,false,0)", 12);
        t.answers("judgement(1,true,0)", 4);
        t.answers("judgement(1,true,2)", 10);
        t.answers("judgement(5,false,0)", 0);
        t.answers("judgement(5,true,0)", 1);
        t = new Talk("judgement: -1 when there is none", six);
        for (int k : new int[] {-1, 6, 7, LEAST, MOST}) {
            t.answers("judgement(" + k + ",false,0)", -1);
            t.answers("judgement(" + k + ",true,0)", -1);
        }
        for (int i : new int[] {-1, -2, 3, 40, 41, LEAST, MOST}) {
            t.answers("judgement(0,false," + i + ")", -1);
            t.answers("judgement(1,true," + i + ")", -1);
        }
        t.answers("judgement(0,true,1)", -1);
        t.answers("judgement(1,false,1)", -1);
        t.does("drop");
        t.answers("judgement(5,false,0)", -1);
        t = new Talk("judgement: -1 when there is none", BIG + NINETEEN);
        t.answers("judgement(0,false,38)", 11);
        t.answers("judgement(0,false,39)", -1);
        // A shorter term in the place of a longer one.
        t.does("drop c1");
        t.answers("judgement(0,false,1)", -1);
    }

    private static void made() {
        Talk t = new Talk("made: How many context entries judgement k was made with",
                NAT + "c1 c0 assume v0 c0 assume c0 assume c0 assume v0");
        t.answers("made(0)", 4);
        t.answers("made(1)", 1);
        t.answers("made(2)", 0);
        t.does("lambda");
        t.answers("made(0)", 3);
        t = new Talk("made: -1 when there is none", "sort sort");
        for (int k : new int[] {-1, 2, 6, LEAST, MOST}) {
            t.answers("made(" + k + ")", -1);
        }
        t.answers("made(1)", 0);
        t.does("drop");
        t.answers("made(1)", -1);
        t.does("drop");
        t.answers("made(0)", -1);
    }

    private static void entry() {
        Talk t = new Talk("entry: Number i of the row of context entry k",
                VEC + "c0 assume c4 v0 apply assume c0 assume c4 v2 apply assume");
        t.answers("entry(0,2)", 102);
        t.answers("entry(2,2)", 100);
        t.answers("entry(3,0)", 10);
        t = new Talk("entry: -1 when there is none", VEC + "c0 assume c4 v0 apply assume c0 assume c4 v2 apply assume");
        for (int k : new int[] {-1, 4, 5, LEAST, MOST}) {
            t.answers("entry(" + k + ",0)", -1);
        }
        for (int i : new int[] {-1, -2, 3, 40, LEAST, MOST}) {
            t.answers("entry(0," + i + ")", -1);
        }
        t.answers("entry(3,1)", -1);
        t.does("leave");
        t.answers("entry(3,0)", -1);
        // A shorter entry in the place of a longer one.
        t.does("c0 assume");
        t.answers("entry(0,1)", -1);
    }

    private static void type() {
        Talk t = new Talk("type: Number i of the row of constant c's type", NAT);
        t.answers("type(0,0)", 0);
        t.answers("type(3,0)", 4);
        t.answers("type(3,4)", 10);
        t = new Talk("type: for i = -1: 1 if it is definable, else 0", NAT);
        t.answers("type(3,-1)", 1);
        t.answers("type(2,-1)", 0);
        t = new Talk("type: -1 when there is none", NAT);
        for (int c : new int[] {-1, 4, 8, LEAST, MOST}) {
            t.answers("type(" + c + ",0)", -1);
            t.answers("type(" + c + ",-1)", -1);
        }
        for (int i : new int[] {-2, 5, 40, LEAST, MOST}) {
            t.answers("type(3," + i + ")", -1);
        }
        t.answers("type(0,1)", -1);
        t = new Talk("type: -1 when there is none", "sort declare+ ".repeat(8));
        t.answers("type(7,0)", 0);
        t.answers("type(7,-1)", 1);
        t.answers("type(8,0)", -1);
        t.answers("type(8,-1)", -1);
    }

    private static void side() {
        Talk t = new Talk("side: Number i of the row of rule r's left side, or of its right side", PLUS);
        t.answers("side(0,false,2)", 13);
        t.answers("side(0,true,0)", 100);
        t.answers("side(1,false,6)", 100);
        t.answers("side(1,true,6)", 100);
        t.answers("side(1,true,1)", 12);
        t = new Talk("side: for i = -1 how many variables it has", PLUS + "c3 c3 rule");
        t.answers("side(0,false,-1)", 1);
        t.answers("side(1,false,-1)", 2);
        t.answers("side(1,true,-1)", 2);
        t.answers("side(2,false,-1)", 0);
        t.answers("side(2,true,-1)", 0);
        t = new Talk("side: -1 when there is none", PLUS);
        for (int r : new int[] {-1, 2, 8, LEAST, MOST}) {
            for (int i : new int[] {-1, 0}) {
                t.answers("side(" + r + ",false," + i + ")", -1);
                t.answers("side(" + r + ",true," + i + ")", -1);
            }
        }
        for (int i : new int[] {-2, 7, 40, LEAST, MOST}) {
            t.answers("side(1,false," + i + ")", -1);
            t.answers("side(1,true," + i + ")", -1);
        }
        t.answers("side(0,true,1)", -1);
        t.answers("side(0,false,4)", 100);
        t.answers("side(0,false,5)", -1);
        t = new Talk("side: -1 when there is none", NAT + "c3 c3 rule ".repeat(8));
        t.answers("side(7,false,0)", 13);
        t.answers("side(8,false,0)", -1);
        t.answers("side(8,true,-1)", -1);
    }
}
