/** Each promise of the document in turn, with ordinary and with wrong inputs; the edges are in the boundary tests. */
public final class PromiseTest extends Beginnings {
    public static void main(String[] args) {
        newObject();
        sort();
        constant();
        variable();
        apply();
        applyTypes();
        assume();
        lambda();
        product();
        declare();
        rule();
        ruleTypes();
        normal();
        normalPuts();
        normalRules();
        normalOrder();
        same();
        drop();
        leave();
        counts();
        judgement();
        made();
        entry();
        type();
        side();
        Talk.end("PromiseTest");
    }

    private static void newObject() {
        Talk t = new Talk("promise 1", "");
        t.counts(0, 0, 0, 0);
        t.is("the state", Talk.state(t.kernel), Talk.state(new TypeKernel()));
        t.answers("made(0)", -1);
        t.answers("type(0,-1)", -1);
        t.answers("side(0,false,-1)", -1);
        t.does("sort declare+ c0 c0 rule c0 assume sort");
        t.is("another object's counts", new TypeKernel().counts(), 0);
    }

    private static void sort() {
        Talk t = new Talk("promise 2", "sort");
        t.term(0, "0");
        t.itsType(0, "1");
        t.answers("made(0)", 0);
        t.does("sort sort sort sort sort");
        t.counts(6, 0, 0, 0);
        t.answers("sort", ROOM);
        t = new Talk("promise 2, in a context", "sort declare- c0 assume sort");
        t.answers("made(0)", 1);
    }

    private static void constant() {
        Talk t = new Talk("promise 3", NAT + "c3 c1");
        t.term(1, "13");
        t.itsType(1, "4 10 4 10 10");
        t.term(0, "11");
        t.itsType(0, "10");
        t.answers("c4", INDEX);
        t.answers("c-1", INDEX);
        t.answers("c2147483647", INDEX);
        t.answers("c-2147483648", INDEX);
        t.does("c0 c0 c0 c0");
        t.answers("c0", ROOM);
        t.answers("c4", INDEX);
        t = new Talk("promise 3, none declared", "");
        t.answers("c0", INDEX);
    }

    private static void variable() {
        Talk t = new Talk("promise 4", VEC + "c0 assume c4 v0 apply assume c4 v1 apply assume v0 v1 v2");
        t.term(2, "100");
        t.itsType(2, "2 14 102");
        t.term(1, "101");
        t.itsType(1, "2 14 102");
        t.term(0, "102");
        t.itsType(0, "10");
        t.answers("made(0)", 3);
        t.answers("v3", INDEX);
        t.answers("v-1", INDEX);
        t.answers("v2147483647", INDEX);
        t.does("sort sort sort");
        t.answers("v0", ROOM);
        t.answers("v3", INDEX);
        // What the entry binds itself stays as it is, what stands in a domain or is bound further out moves.
        t = new Talk("promise 4, an entry with a product",
                VEC + "c0 assume c4 v0 apply assume c4 v1 apply product assume c0 assume v1");
        t.itsType(0, "4 2 14 102 2 14 103");
        t = new Talk("promise 4, an entry that binds its own",
                VEC + "c0 assume c0 assume c4 v0 apply product assume v0");
        t.itsType(0, "4 10 2 14 100");
        new Talk("promise 4, no context", NAT).answers("v0", INDEX);
    }

    private static void apply() {
        Talk t = new Talk("promise 5", NAT + "sort c3 c1 apply");
        t.counts(2, 0, 4, 0);
        t.term(0, "2 13 11");
        t.itsType(0, "4 10 10");
        t.term(1, "0");
        t.does("c2 c1 apply apply");
        t.term(0, "2 2 13 11 2 12 11");
        t.itsType(0, "10");
        t = new Talk("promise 5, too few", NAT);
        t.answers("apply", STATE);
        t.answers("c2 apply", STATE);
        t = new Talk("promise 5, the lower one not present", NAT + "c2 c0 assume c1");
        t.answers("apply", STATE);
        t = new Talk("promise 5, both not present", NAT + "c2 c1 c0 assume");
        t.answers("apply", STATE);
        t.does("leave apply");
        t.term(0, "2 12 11");
        t = new Talk("promise 5, no product", NAT + "c1 c1");
        t.answers("apply", ARGUMENT);
        t.answers("drop sort apply", ARGUMENT);
        t.answers("c1 apply", ARGUMENT);
        t = new Talk("promise 5, another domain", NAT + "c2 c2");
        t.answers("apply", ARGUMENT);
        t.answers("drop c0 apply", ARGUMENT);
    }

    private static void applyTypes() {
        Talk t = new Talk("promise 5, put into the type", VEC + "c6 c2 c1 apply apply");
        t.itsType(0, "4 2 14 2 12 11 2 14 2 12 2 12 11");
        t = new Talk("promise 5, put a variable into the type", VEC + "c0 assume c0 assume c6 v1 apply");
        t.itsType(0, "4 2 14 101 2 14 2 12 102");
        t.does("drop c0 assume c4 v1 apply assume c6 v2 apply v0");
        t.itsType(0, "2 14 102");
        t.does("apply");
        t.itsType(0, "2 14 2 12 102");
        // The domain vec zero is what vec (plus zero zero) comes to, on either side.
        t = new Talk("promise 5, the upper type made normal",
                VEC + "c4 c3 c1 apply c1 apply apply declare- c6 c1 apply c7 apply");
        t.term(0, "2 2 16 11 17");
        t.itsType(0, "2 14 2 12 11");
        t = new Talk("promise 5, the lower type made normal",
                VEC + "c6 c3 c1 apply c1 apply apply");
        t.itsType(0, "4 2 14 2 2 13 11 11 2 14 2 12 2 2 13 11 11");
        t.does("c5 apply");
        t.itsType(0, "2 14 2 12 11");
        t = new Talk("promise 5, a type that comes to a product",
                NAT + "sort declare+ c4 declare- c4 c0 assume c0 product rule c5 c1 apply");
        t.term(0, "2 15 11");
        t.itsType(0, "10");
    }

    private static void assume() {
        Talk t = new Talk("promise 6", NAT + "c1 c0 assume");
        t.counts(1, 1, 4, 0);
        t.is("the entry", Talk.entryRow(t.kernel, 0), "10");
        t.answers("assume", STATE);
        t.does("c0 assume c0 assume c0 assume");
        t.counts(1, 4, 4, 0);
        t.answers("assume", STATE);
        t.answers("c0 assume", ROOM);
        t.answers("c1 assume", ROOM);
        t = new Talk("promise 6, wrong types", NAT);
        t.answers("assume", STATE);
        t.answers("sort assume", ARGUMENT);
        t.answers("c1 assume", ARGUMENT);
        t.answers("c2 assume", ARGUMENT);
        t = new Talk("promise 6, the entries' order", VEC + "c0 assume c4 v0 apply assume");
        t.is("the latest entry", Talk.entryRow(t.kernel, 0), "2 14 100");
        t.is("the entry before", Talk.entryRow(t.kernel, 1), "10");
    }

    private static void lambda() {
        Talk t = new Talk("promise 7", VEC + "sort c0 assume c4 v0 apply assume v0 lambda");
        t.counts(2, 1, 7, 2);
        t.term(0, "3 2 14 100 100");
        t.itsType(0, "4 2 14 100 2 14 101");
        t.answers("made(0)", 1);
        t.does("lambda");
        t.term(0, "3 10 3 2 14 100 100");
        t.itsType(0, "4 10 4 2 14 100 2 14 101");
        t.answers("made(0)", 0);
        t.counts(2, 0, 7, 2);
        t.answers("lambda", STATE);
        t = new Talk("promise 7, a type as body", VEC + "c0 assume c4 v0 apply lambda");
        t.term(0, "3 10 2 14 100");
        t.itsType(0, "4 10 0");
        t = new Talk("promise 7, none present", NAT);
        t.answers("lambda", STATE);
        t.answers("c1 lambda", STATE);
        t.answers("c0 assume lambda", STATE);
        t.answers("v0 v0 lambda", STATE);
        t.answers("sort lambda", STATE);
        t.answers("drop drop lambda", "done");
        t = new Talk("promise 7, of type KIND", NAT + "c0 assume sort");
        t.answers("lambda", ARGUMENT);
        t.does("drop c0 assume sort product");
        t.itsType(0, "1");
        t.answers("lambda", ARGUMENT);
        t = new Talk("promise 7, a row of 39", BIG + "c0 assume c5 c2 c2 v0 apply apply apply normal lambda");
        t.term(0, "3 10 " + "2 12 ".repeat(18) + "100");
        t = new Talk("promise 7, a row of 41", BIG + "c0 assume c5 c2 c2 c2 v0 apply apply apply apply normal");
        t.answers("lambda", LONG);
        String vec = BIG + "c0 assume sort product declare- ";
        t = new Talk("promise 7, a type of 39",
                vec + "c6 c5 c2 c1 apply apply normal apply declare- c0 assume c7 lambda");
        t.term(0, "3 10 17");
        t.itsType(0, "4 10 2 16 " + succs(17));
        t = new Talk("promise 7, a type of 41",
                vec + "c6 c5 c2 c2 c1 apply apply apply normal apply declare- c0 assume c7");
        t.answers("lambda", LONG);
    }

    private static void product() {
        Talk t = new Talk("promise 8", VEC + "c1 c0 assume c4 v0 apply product");
        t.counts(2, 0, 7, 2);
        t.term(0, "4 10 2 14 100");
        t.itsType(0, "0");
        t.answers("made(0)", 0);
        t.answers("product", STATE);
        t = new Talk("promise 8, of type KIND", VEC + "c0 assume c4 v0 apply assume sort product");
        t.term(0, "4 2 14 100 0");
        t.itsType(0, "1");
        t.answers("made(0)", 1);
        t.does("product");
        t.term(0, "4 10 4 2 14 100 0");
        t.itsType(0, "1");
        t = new Talk("promise 8, none present", NAT);
        t.answers("product", STATE);
        t.answers("c0 product", STATE);
        t.answers("c0 assume product", STATE);
        t.answers("c0 c0 product", STATE);
        t.answers("v0 product", STATE);
        t.answers("drop drop product", "done");
        t = new Talk("promise 8, no type", NAT + "c0 assume v0");
        t.answers("product", ARGUMENT);
        t.answers("drop c2 product", ARGUMENT);
        String vec = BIG + "c0 assume sort product declare- c0 assume ";
        t = new Talk("promise 8, a row of 39", vec + "c6 c5 c2 c1 apply apply normal apply product");
        t.term(0, "4 10 2 16 " + succs(17));
        t = new Talk("promise 8, a row of 41", vec + "c6 c5 c2 c2 c1 apply apply apply normal apply");
        t.answers("product", LONG);
        t = new Talk("promise 8, no type and a row of 41",
                BIG + "c0 assume c5 c2 c2 c2 c1 apply apply apply apply normal");
        t.answers("product", ARGUMENT);
    }

    private static void declare() {
        Talk t = new Talk("promise 9", "");
        t.answers("declare+", STATE);
        t.answers("sort sort declare+", 0);
        t.counts(1, 0, 1, 0);
        t.is("the type", Talk.typeRow(t.kernel, 0), "0");
        t.answers("type(0,-1)", 1);
        t.answers("c0 declare-", 1);
        t.is("the type", Talk.typeRow(t.kernel, 1), "10");
        t.answers("type(1,-1)", 0);
        t.does("c0 assume sort product");
        t.answers("declare-", 2);
        t.is("the type", Talk.typeRow(t.kernel, 2), "4 10 0");
        t.answers("c1 declare+", ARGUMENT);
        t.answers("c2 declare+", ARGUMENT);
        t.answers("c0 assume declare-", STATE);
        t.answers("c0 declare-", STATE);
        t.answers("drop leave declare-", ARGUMENT);
        t = new Talk("promise 9, eight at most", "sort declare- ".repeat(7));
        t.answers("sort declare-", 7);
        t.answers("declare-", STATE);
        t.answers("sort declare-", ROOM);
        t.answers("c7 assume c7 declare-", STATE);
        t.does("drop leave drop");
        t = new Talk("promise 9, full and no type", "sort declare- c0 declare- " + "c0 declare- ".repeat(6));
        t.answers("c1 declare-", ROOM);
    }

    private static void rule() {
        Talk t = new Talk("promise 10", NAT + "c0 assume c3 c1 apply v0 apply v0");
        t.answers("rule", 0);
        t.counts(0, 0, 4, 1);
        t.is("left", Talk.sideRow(t.kernel, 0, false), "2 2 13 11 100");
        t.is("right", Talk.sideRow(t.kernel, 0, true), "100");
        t.answers("side(0,false,-1)", 1);
        t.answers("c3 c3 rule", 1);
        t.answers("rule", STATE);
        t.answers("c3 rule", STATE);
        t.answers("c3 c3 rule", STATE);
        t.answers("drop drop c0 assume c3 rule", STATE);
        t.answers("c3 rule", STATE);
        t = new Talk("promise 10, not present", NAT + "c3 c3 c0 assume");
        t.answers("rule", STATE);
        t.answers("leave rule", 0);
        t = new Talk("promise 10, eight at most", NAT + "c3 c3 rule ".repeat(7));
        t.answers("c3 c3 rule", 7);
        t.answers("c3 c3 rule", ROOM);
        t.answers("drop c1 rule", ROOM);
        t.answers("drop drop c1 c1 rule", ROOM);
        t.answers("c1 rule", STATE);
        t = new Talk("promise 10, four variables", NAT + "c0 assume c0 assume c0 assume c0 assume "
                + "c3 c3 v3 apply v1 apply apply c3 v0 apply v2 apply apply c3 v0 apply v3 apply");
        t.answers("rule", 0);
        t.answers("side(0,true,-1)", 4);
        t.counts(0, 0, 4, 1);
    }

    private static void ruleTypes() {
        Talk t = new Talk("promise 10, other types", NAT + "c3 c2");
        t.answers("rule", ARGUMENT);
        t = new Talk("promise 10, types that come to the same",
                VEC + "c4 c3 c1 apply c1 apply apply declare+ c7 c5");
        t.answers("rule", 2);
        t = new Talk("promise 10, types that do not", VEC + "c4 c2 c1 apply apply declare+ c7 c5");
        t.answers("rule", ARGUMENT);
        t = new Talk("promise 10, no end left", LOOP + "c0 declare+ c5 c3");
        t.answers("rule", LONG);
        t = new Talk("promise 10, no end right", LOOP + "c2 declare+ c5 c1");
        t.answers("rule", LONG);
        t = new Talk("promise 10, a wrong side and no end", LOOP + "c1 c3");
        t.answers("rule", ARGUMENT);
        t = new Talk("promise 10, full and no end", LOOP + "c0 c0 rule ".repeat(7) + "c1 c1");
        t.answers("rule", ROOM);
    }

    private static void normal() {
        Talk t = new Talk("promise 11", PLUS + "c3 c2 c2 c1 apply apply apply c2 c1 apply apply");
        t.answers("normal", 3);
        t.term(0, succs(3));
        t.itsType(0, "10");
        t.answers("normal", 0);
        t.counts(1, 0, 4, 2);
        t.does("drop");
        t.answers("normal", STATE);
        t = new Talk("promise 11, not present", PLUS + "c0 assume c3 c1 apply v0 apply c0 assume");
        t.answers("normal", 1);
        t.term(0, "100");
        t.answers("made(0)", 1);
        // The type stays as it is though it has a redex itself.
        t = new Talk("promise 11, the type stays", VEC + "c6 c3 c1 apply c1 apply apply normal");
        t.term(0, "2 16 11");
        t.itsType(0, "4 2 14 2 2 13 11 11 2 14 2 12 2 2 13 11 11");
        t = new Talk("promise 11, the uppermost one alone", PLUS + "c3 c1 apply c1 apply c3 c1 apply c1 apply normal");
        t.term(0, "11");
        t.term(1, "2 2 13 11 11");
    }

    private static void normalPuts() {
        Talk t = new Talk("putting under a lambda", NAT + "c0 assume c0 assume c0 assume v1 lambda lambda v0 apply");
        t.term(0, "2 3 10 3 10 101 100");
        t.answers("normal", 1);
        t.term(0, "3 10 101");
        t = new Talk("variables above become less", NAT + "c0 assume c0 assume c0 assume v1 lambda c1 apply");
        t.term(0, "2 3 10 101 11");
        t.does("normal");
        t.term(0, "100");
        t = new Talk("variables above become less under a lambda",
                NAT + "c0 assume c0 assume c0 assume v2 lambda lambda c1 apply normal");
        t.term(0, "3 10 101");
        t = new Talk("variables bound within stay",
                NAT + "c0 assume c0 assume v0 lambda lambda c1 apply normal");
        t.term(0, "3 10 100");
        t = new Talk("a domain is not under its lambda",
                VEC + "c0 assume c0 assume c4 v0 apply assume v1 lambda lambda v0 apply");
        t.term(0, "2 3 10 3 2 14 100 101 100");
        t.does("normal");
        t.term(0, "3 2 14 100 101");
        t = new Talk("a domain is not under its product",
                VEC + "c0 assume c0 assume c4 v0 apply assume c4 v1 apply product lambda v0 apply normal");
        t.term(0, "4 2 14 100 2 14 101");
        t = new Talk("an argument with a lambda under a lambda", NAT
                + "c0 assume c0 assume c0 product assume c0 assume v1 lambda lambda "
                + "c0 assume c3 v0 apply v1 apply lambda apply");
        t.term(0, "2 3 4 10 10 3 10 101 3 10 2 2 13 100 101");
        t.answers("normal", 1);
        t.term(0, "3 10 3 10 2 2 13 100 102");
        t = new Talk("an argument put twice", PLUS + "c0 assume c3 v0 apply v0 apply lambda c2 c1 apply apply");
        t.answers("normal", 3);
        t.term(0, succs(2));
        t = new Talk("a redex with something before and behind",
                NAT + "c3 c0 assume v0 lambda c1 apply apply c2 c1 apply apply");
        t.answers("normal", 1);
        t.term(0, "2 2 13 11 2 12 11");
        t = new Talk("a redex that a step makes", PLUS + "c0 assume c0 product assume v0 c1 apply lambda "
                + "c0 assume c2 v0 apply lambda apply");
        t.answers("normal", 2);
        t.term(0, succs(1));
    }

    private static void normalRules() {
        Talk t = new Talk("a rule under a lambda", PLUS + "c0 assume c3 c2 c1 apply apply v0 apply lambda");
        t.answers("normal", 2);
        t.term(0, "3 10 2 12 100");
        String constantly = NAT + "c0 assume c0 assume c0 product product declare+ "
                + "c0 assume c4 v0 apply c0 assume v1 lambda rule ";
        t = new Talk("a right side that binds", constantly + "c0 assume c0 assume c4 v1 apply");
        t.answers("normal", 1);
        t.term(0, "3 10 102");
        t = new Talk("a right side that binds, under a lambda", constantly + "c0 assume c4 v0 apply lambda normal");
        t.term(0, "3 10 3 10 101");
        t = new Talk("a right side's own variable", constantly + "c4 c1 apply c2 c1 apply apply");
        t.answers("normal", 2);
        t.term(0, "11");
        // c5 x is the product over vec x of vec (x): the domain is not under the product.
        t = new Talk("a right side with a domain",
                NAT + "c0 assume sort product declare- c0 assume sort product declare+ "
                + "c0 assume c5 v0 apply c4 v0 apply assume c4 v1 apply product rule c0 assume c0 assume c5 v1 apply");
        t.answers("normal", 1);
        t.term(0, "4 2 14 101 2 14 102");
        t = new Talk("a term for a variable that binds",
                NAT + "c0 assume c0 product assume c0 assume c0 product product declare+ "
                + "c0 assume c0 product assume c4 v0 apply c0 assume v1 v0 apply lambda rule "
                + "c0 assume c4 c0 assume c3 v0 apply v1 apply lambda apply");
        t.answers("normal", 2);
        t.term(0, "3 10 2 2 13 100 101");
        t = new Talk("arguments beyond the left side", NAT + FUNCTION + "c4 c2 rule c4 c4 c1 apply apply");
        t.answers("normal", 2);
        t.term(0, succs(2));
        t = new Talk("fewer arguments than the left side", PLUS + "c3 c1 apply");
        t.answers("normal", 0);
        t = new Talk("a pattern within that is not so", PLUS + "c0 assume c3 v0 apply c1 apply");
        t.answers("normal", 0);
        t = new Talk("a left side with variables in another order",
                NAT + "c0 assume c0 assume c3 v0 apply v1 apply v1 rule c3 c1 apply c2 c1 apply apply normal");
        t.term(0, succs(1));
    }

    private static void normalOrder() {
        String f = NAT + FUNCTION;
        String general = "c0 assume c4 v0 apply c1 rule ";
        String special = "c4 c1 apply c2 c1 apply rule ";
        Talk t = new Talk("the first rule that matches", f + general + special + "c4 c1 apply normal");
        t.term(0, "11");
        t = new Talk("the first rule that matches, the other way", f + special + general + "c4 c1 apply normal");
        t.term(0, succs(1));
        // c4 zero is rewritten to itself: only the way from the left ends.
        String endless = f + "c4 c1 apply c4 c1 apply rule ";
        t = new Talk("the outer redex first", endless + "c0 assume c0 assume c3 v0 apply v1 apply v1 rule "
                + "c3 c4 c1 apply apply c1 apply");
        t.answers("normal", 1);
        t.term(0, "11");
        t = new Talk("the lambda first", endless + "c0 assume c1 lambda c4 c1 apply apply");
        t.answers("normal", 1);
        t = new Talk("a function's redex before the argument's", endless
                + "c0 assume c3 v0 apply c0 assume c1 lambda rule c3 c1 apply c4 c1 apply apply");
        t.answers("normal", 2);
        t = new Talk("no order ends", endless + "c2 c4 c1 apply apply");
        t.answers("normal", LONG);
        t = new Talk("a domain's redex first", VEC
                + "c4 c3 c1 apply c1 apply apply assume c3 c1 apply c1 apply lambda");
        t.answers("normal", 2);
        t.term(0, "3 2 14 11 11");
    }

    private static void same() {
        Talk t = new Talk("promise 12", PLUS + "c3 c1 apply c1 apply c1");
        t.answers("same", true);
        t.counts(2, 0, 4, 2);
        t.term(0, "11");
        t.term(1, "2 2 13 11 11");
        t.answers("c3 c1 apply c2 c1 apply apply same", false);
        t.answers("c2 c1 apply same", true);
        t.answers("c2 same", false);
        t = new Talk("promise 12, too few", NAT);
        t.answers("same", STATE);
        t.answers("c1 same", STATE);
        t = new Talk("promise 12, another context", NAT + "c1 c0 assume c1");
        t.answers("same", STATE);
        t.answers("c1 same", true);
        t.answers("c0 assume same", true);
        t.answers("c1 same", STATE);
        t = new Talk("promise 12, one row begins the other", NAT + "c1 c2 c1 apply");
        t.answers("same", false);
        t = new Talk("promise 12, other types count for nothing", VEC + "c4 c3 c1 apply c1 apply apply declare+ "
                + "c7 c5 rule c7 c5");
        t.answers("same", true);
        t = new Talk("promise 12, no end", LOOP + "c0 c2");
        t.answers("same", LONG);
        t = new Talk("promise 12, no end above", LOOP + "c2 c0");
        t.answers("same", LONG);
        t = new Talk("promise 12, no end in another context", LOOP + "c2 c2 assume c0");
        t.answers("same", STATE);
    }

    private static void drop() {
        Talk t = new Talk("promise 13", NAT + "c1 c0");
        t.answers("drop", true);
        t.counts(1, 0, 4, 0);
        t.term(0, "11");
        t.does("c0 assume");
        t.answers("drop", true);
        t.answers("drop", false);
        t.counts(0, 1, 4, 0);
    }

    private static void leave() {
        Talk t = new Talk("promise 14", NAT);
        t.answers("leave", false);
        t.answers("c1 leave", false);
        t.does("c0 assume c0 assume");
        t.answers("leave", true);
        t.counts(1, 1, 4, 0);
        t.answers("v0 leave", false);
        t.counts(2, 1, 4, 0);
        t.does("c0 assume");
        t.answers("leave", true);
        t.answers("leave", false);
        t.does("drop");
        t.answers("leave", true);
        t.answers("leave", false);
        t.counts(1, 0, 4, 0);
    }

    private static void counts() {
        Talk t = new Talk("promise 15", "sort declare+ ");
        t.answers("counts", 64);
        t.does("c0 c0 rule c0 c0 rule");
        t.answers("counts", 64 + 2048);
        t.does("c0 c0 assume c0 assume c0 assume v0 v0");
        t.answers("counts", 3 + 24 + 64 + 2048);
        t = new Talk("promise 15, all full", "sort declare+ ".repeat(8) + "c0 c0 rule ".repeat(8)
                + "c0 assume ".repeat(4) + "sort ".repeat(6));
        t.answers("counts", 6 + 32 + 512 + 8192);
    }

    private static void judgement() {
        Talk t = new Talk("promise 16", NAT + "sort c2 c1 apply c3");
        t.answers("judgement(0,true,2)", 4);
        t.answers("judgement(0,true,4)", 10);
        t.answers("judgement(0,true,5)", -1);
        t.answers("judgement(0,false,0)", 13);
        t.answers("judgement(0,false,1)", -1);
        t.answers("judgement(1,false,1)", 12);
        t.answers("judgement(2,false,0)", 0);
        t.answers("judgement(2,true,0)", 1);
        t.answers("judgement(3,true,0)", -1);
        t.answers("judgement(-1,true,0)", -1);
        t.answers("judgement(0,true,-1)", -1);
        t.does("drop drop drop");
        t.answers("judgement(0,false,0)", -1);
        t = new Talk("promise 16, the last of 39", BIG + NINETEEN);
        t.answers("judgement(0,false,38)", 11);
        t.answers("judgement(0,false,39)", -1);
        t.answers("judgement(0,false,40)", -1);
        t.does("drop" + SIXTEEN);
        t.answers("judgement(0,false,33)", -1);
    }

    private static void made() {
        Talk t = new Talk("promise 17", NAT + "c1 c0 assume v0 v0 c0 assume c0 assume v0");
        t.answers("made(0)", 3);
        t.answers("made(1)", 1);
        t.answers("made(2)", 1);
        t.answers("made(3)", 0);
        t.answers("made(4)", -1);
        t.answers("made(-1)", -1);
        t.does("lambda");
        t.answers("made(0)", 2);
    }

    private static void entry() {
        Talk t = new Talk("promise 18", VEC + "c0 assume c4 v0 apply assume");
        t.answers("entry(0,0)", 2);
        t.answers("entry(0,2)", 100);
        t.answers("entry(0,3)", -1);
        t.answers("entry(0,-1)", -1);
        t.answers("entry(1,0)", 10);
        t.answers("entry(2,0)", -1);
        t.answers("entry(-1,0)", -1);
        t.does("leave");
        t.answers("entry(0,0)", 10);
        t.answers("entry(1,0)", -1);
    }

    private static void type() {
        Talk t = new Talk("promise 19", NAT);
        t.answers("type(3,-1)", 1);
        t.answers("type(2,-1)", 0);
        t.answers("type(3,4)", 10);
        t.answers("type(3,5)", -1);
        t.answers("type(3,-2)", -1);
        t.answers("type(0,0)", 0);
        t.answers("type(4,0)", -1);
        t.answers("type(4,-1)", -1);
        t.answers("type(-1,0)", -1);
    }

    private static void side() {
        Talk t = new Talk("promise 20", PLUS);
        t.is("left of 1", Talk.sideRow(t.kernel, 1, false), "2 2 13 2 12 101 100");
        t.is("right of 1", Talk.sideRow(t.kernel, 1, true), "2 12 2 2 13 101 100");
        t.answers("side(1,true,-1)", 2);
        t.answers("side(1,false,-1)", 2);
        t.answers("side(0,false,-1)", 1);
        t.answers("side(0,true,1)", -1);
        t.answers("side(0,false,-2)", -1);
        t.answers("side(2,false,0)", -1);
        t.answers("side(2,false,-1)", -1);
        t.answers("side(-1,true,-1)", -1);
        t = new Talk("promise 20, no variables", "sort declare+ c0 c0 rule");
        t.answers("side(0,true,-1)", 0);
        t.answers("side(0,true,0)", 10);
    }
}
