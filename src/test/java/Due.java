import java.util.Set;
import java.util.TreeSet;

/** What the tests share: it tells every answer that is not the one that is due, and ends with 1 if there was one. */
final class Due {
    private static int right = 0;
    private static int wrong = 0;
    private static String heading = "";
    private static int atHeading = 0;
    private static int sentences = 0;
    private static final Set<Integer> promises = new TreeSet<>();

    private Due() {
    }

    /** The checks that follow hold these words of the document for this promise. */
    static void sentence(int promise, String words) {
        endSentence();
        sentences++;
        promises.add(promise);
        heading = "promise " + promise + ", \"" + words + "\": ";
        holds("the document says so", Document.says(promise, words));
        atHeading = right + wrong;
    }

    private static void endSentence() {
        boolean held = heading.isEmpty() || right + wrong > atHeading;
        holds("it is tested", held);
        heading = "";
    }

    static void is(String call, long got, long want) {
        if (got == want) {
            right++;
        } else {
            wrong++;
            if (wrong <= 40) {
                System.out.println(heading + call + " answered " + got + ", due is " + want);
            }
        }
    }

    static void holds(String what, boolean held) {
        is(what, held ? 1 : 0, 1);
    }

    static void promisesHaveSentences(int most) {
        endSentence();
        for (int promise = 1; promise <= most; promise++) {
            holds("a sentence of promise " + promise + " is tested", promises.contains(promise));
        }
        System.out.println(sentences + " sentences");
    }

    static void end(String name) {
        System.out.println(name + ": " + right + " as due, " + wrong + " not");
        if (wrong != 0 || right == 0) {
            System.exit(1);
        }
    }
}
