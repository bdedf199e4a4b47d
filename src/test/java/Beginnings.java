/** What the tests share: calls, in the words of Talk, that bring a new object to where a test begins. */
abstract class Beginnings {
    static final String INDEX = "IndexOutOfBoundsException";
    static final String STATE = "IllegalStateException";
    static final String ROOM = "UnsupportedOperationException";
    static final String ARGUMENT = "IllegalArgumentException";
    static final String LONG = "ArithmeticException";

    /** A product from nat (c0) to nat, the type of a new definable constant. */
    static final String FUNCTION = " c0 assume c0 product declare+ ";

    /** c0 nat, c1 zero, c2 succ, c3 plus (definable, still without rules). */
    static final String NAT =
            "sort declare- c0 declare- c0 assume c0 product declare- "
                    + "c0 assume c0 assume c0 product product declare+ ";

    /** plus zero x is x; plus (succ x) y is succ (plus x y). */
    static final String PLUS =
            NAT + "c0 assume c3 c1 apply v0 apply v0 rule "
                    + "c0 assume c0 assume c3 c2 v1 apply apply v0 apply c2 c3 v1 apply v0 apply apply rule ";

    /** c4 takes a function from nat to nat. */
    static final String TAKER = NAT + "c0 assume c0 product assume c0 product declare+ ";

    /** The type of a constant that makes a type of each nat. */
    static final String TYPE_OF_NAT = " c0 assume sort product ";

    /** c4 vec, a type for each nat; c5 nil of vec zero; c6 cons from each n and vec n to vec (succ n). */
    static final String VEC =
            PLUS + TYPE_OF_NAT + "declare- c4 c1 apply declare- "
                    + "c0 assume c4 v0 apply assume c4 c2 v1 apply apply product product declare- ";

    /** c4 adds four succs in one step, c5 sixteen in five. */
    static final String BIG =
            NAT + FUNCTION + "c0 assume c4 v0 apply c2 c2 c2 c2 v0 apply apply apply apply rule "
                    + FUNCTION + "c0 assume c5 v0 apply c4 c4 c4 c4 v0 apply apply apply apply rule ";

    /** BIG, and c6 is vec. */
    static final String BIG_VEC = BIG + TYPE_OF_NAT + "declare- ";

    /** The 16th succ of zero, and the 19th, whose row has 39 numbers. */
    static final String SIXTEEN = " c5 c1 apply normal ";
    static final String NINETEEN = " c5 c2 c2 c2 c1 apply apply apply apply normal ";

    /** c0 a type that is rewritten to itself without end, c1 of that type; c2 nat, c3 zero, c4 succ. */
    static final String LOOP =
            "sort declare+ c0 c0 rule c0 declare- sort declare- c2 declare- c2 assume c2 product declare- ";

    /**
     * c0 nat, c1 zero; c2 x takes 1 step to x, c3 x takes 5 by way of four c2, c4 x takes 21 by way of four c3; c5
     * takes 48 steps to zero by way of c4 (c4 (c3 zero)); c6 vec. No row on the way has more than 19 numbers.
     */
    static final String STEPS =
            "sort declare- c0 declare- " + FUNCTION.repeat(3) + "c0 declare+ " + TYPE_OF_NAT + "declare- "
                    + "c0 assume c2 v0 apply v0 rule "
                    + "c0 assume c3 v0 apply c2 c2 c2 c2 v0 apply apply apply apply rule "
                    + "c0 assume c4 v0 apply c3 c3 c3 c3 v0 apply apply apply apply rule "
                    + "c5 c4 c4 c3 c1 apply apply apply rule ";

    /** With STEPS, numbers that take so many steps to zero. */
    static final String FIFTY = " c2 c2 c5 apply apply ";
    static final String FIFTY_ONE = " c2 c2 c2 c5 apply apply apply ";

    /** The row of the n-th succ of zero, where c1 and c2 are zero and succ. */
    static String succs(int n) {
        return "2 12 ".repeat(n) + "11";
    }
}
