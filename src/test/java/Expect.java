import java.util.Arrays;
import java.util.NoSuchElementException;

/** Counts and prints the answers that are not the ones that are due. */
final class Expect {
    interface Call {
        int answer();
    }

    private int wrong = 0;
    private String sentence = "";

    /** What is told from now on belongs to this sentence of the document. */
    void sentence(String text) {
        sentence = "\"" + text + "\": ";
    }

    void same(String what, long got, long want) {
        if (got != want) {
            tell(what + " is " + got + ", due is " + want);
        }
    }

    void yes(String what, boolean got) {
        if (!got) {
            tell(what + " is false, due is true");
        }
    }

    void no(String what, boolean got) {
        if (got) {
            tell(what + " is true, due is false");
        }
    }

    void text(String what, String got, String want) {
        if (!got.equals(want)) {
            tell(what + " is <" + got + ">, due is <" + want + ">");
        }
    }

    void bytes(String what, int[] got, int... want) {
        text(what, Arrays.toString(got), Arrays.toString(want));
    }

    void nothingThere(String what, Call call) {
        try {
            tell(what + " answered " + call.answer() + ", due is NoSuchElementException");
        } catch (NoSuchElementException due) {
            // as it must be
        }
    }

    private void tell(String text) {
        wrong++;
        System.out.println(sentence + text);
    }

    void end() {
        System.out.println(wrong == 0 ? "all as due" : wrong + " not as due");
        if (wrong != 0) {
            System.exit(1);
        }
    }
}
