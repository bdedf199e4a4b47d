import java.util.Map;
import java.util.Random;
import java.util.TreeMap;

/**
 * Long runs of calls on a TypeKernel and on the Model: every answer and every state has to be the same. A run begins
 * with the declarations and rules of one of the beginnings; the calls after that are drawn, the same ones each time,
 * and calls that the model refuses are mostly drawn again, so that the runs come far.
 */
public final class ModelTest extends Beginnings {
    private static final int RUNS = 1600;
    private static final int TURNS = 120;

    private static final String[] BEGINNINGS = {
        "",
        "sort declare+ c0 declare- c0 declare+ ",
        NAT,
        PLUS,
        // Types over the numbers.
        VEC,
        // A type that becomes another one, and constants of both.
        NAT + "sort declare+ c4 declare- c4 c0 assume c0 product rule c4 assume c0 product declare+ ",
        // Rules without end and rules that let rows grow.
        NAT + "c0 declare+ c4 c2 c4 apply rule c0 assume c0 product declare+ "
                + "c0 assume c5 v0 apply c3 v0 apply v0 apply rule sort declare+ c6 c6 rule c6 declare- ",
        // A right side that binds, and one with a domain that depends on the rule's variable.
        NAT + "c0 assume c0 assume c0 product product declare+ c0 assume c4 v0 apply c0 assume v1 lambda rule "
                + "c0 assume sort product declare- c0 assume sort product declare+ "
                + "c0 assume c6 v0 apply c5 v0 apply assume c5 v1 apply product rule ",
    };
    private static final String[] WORDS = {
        "sort", "apply", "assume", "assume", "lambda", "lambda", "lambda", "product", "declare+", "declare-", "rule",
        "rule", "normal", "same", "drop", "leave",
    };

    public static void main(String[] args) {
        Map<String, Integer> seen = new TreeMap<>();
        Random random = new Random(20);
        for (int run = 0; run < RUNS; run++) {
            if (!agrees(run, random, seen)) {
                System.exit(1);
            }
        }
        System.out.println("ModelTest: the model agrees, answers seen: " + seen);
    }

    private static boolean agrees(int run, Random random, Map<String, Integer> seen) {
        TypeKernel kernel = new TypeKernel();
        Model model = new Model();
        StringBuilder story = new StringBuilder();
        for (String word : Talk.split(BEGINNINGS[run % BEGINNINGS.length])) {
            if (!agreesOn(word, kernel, model, story, seen)) {
                return false;
            }
        }
        for (int turn = 0; turn < TURNS; turn++) {
            String words = random.nextInt(12) == 0 ? drawPhrase(random) : draw(random, model);
            for (String word : Talk.split(words)) {
                if (!agreesOn(word, kernel, model, story, seen)) {
                    return false;
                }
            }
        }
        return true;
    }

    private static boolean agreesOn(
            String word, TypeKernel kernel, Model model, StringBuilder story, Map<String, Integer> seen) {
        story.append(word).append(' ');
        String got = Talk.answer(kernel, word);
        String due = model.answer(word);
        seen.merge(word.replaceAll("-?\\d+", "") + " " + (due.matches("[1-9]\\d*") ? "above 0" : due), 1, Integer::sum);
        if (!got.equals(due)) {
            System.out.println("ModelTest: " + story + "answered " + got + ", due is " + due);
            return false;
        }
        String state = Talk.state(kernel);
        if (!state.equals(model.state())) {
            System.out.println("ModelTest: after " + story + "the state is\n" + state + "\ndue is\n" + model.state());
            return false;
        }
        return true;
    }

    /** Applies where it can be, and makes room where none is left: else the stack would soon hold nothing but dregs. */
    private static String draw(Random random, Model model) {
        if (random.nextInt(3) > 0 && accepts(model, "apply")) {
            return "apply";
        }
        if (random.nextInt(3) > 0 && !accepts(model, "sort")) {
            return "drop";
        }
        String word = drawWord(random);
        for (int tries = 0; tries < 6 && !accepts(model, word); tries++) {
            word = drawWord(random);
        }
        return word;
    }

    /** A number's term is made, where c0 to c3 are nat, zero, succ and plus, and then looked at. */
    private static String drawPhrase(Random random) {
        String[] ends = {"normal ", "same ", "c0 assume normal leave ", "lambda normal ", "apply normal ", ""};
        return "drop drop drop drop " + (random.nextBoolean() ? "c0 assume " : "")
                + drawNumber(random, 4) + ends[random.nextInt(ends.length)];
    }

    private static String drawNumber(Random random, int depth) {
        int kind = depth == 0 ? random.nextInt(3) : random.nextInt(9);
        if (kind < 3) {
            return kind == 0 ? "c1 " : "v" + (kind - 1) + " ";
        }
        String last = drawNumber(random, depth - 1) + "apply ";
        if (kind < 5) {
            return "c2 " + last;
        }
        if (kind < 7) {
            return "c3 " + drawNumber(random, depth - 1) + "apply " + last;
        }
        if (kind < 8) {
            return "c" + (4 + random.nextInt(4)) + " " + last;
        }
        return "c0 assume " + drawNumber(random, depth - 1) + "lambda " + last;
    }

    private static boolean accepts(Model model, String word) {
        return !model.copy().answer(word).endsWith("Exception");
    }

    private static String drawWord(Random random) {
        int kind = random.nextInt(10);
        if (kind < 4) {
            return "c" + (random.nextInt(10) - 1);
        }
        if (kind < 6) {
            return "v" + (random.nextInt(6) - 1);
        }
        return WORDS[random.nextInt(WORDS.length)];
    }
}
