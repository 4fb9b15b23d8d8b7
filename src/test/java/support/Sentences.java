import java.io.IOException;
import java.nio.file.Files;
import java.nio.file.Path;

/** Asks under sentences of the document: each has to stand there, and to be asked at least once. */
final class Sentences {
    private static final Path DOCUMENT = Path.of("../shared/DOC.md");
    private static final int NONE = OneSided.NONE;

    private final Due due;
    private final String document;
    private String sentence = "";
    private int asked = 1;
    private int promised;

    Sentences(String test) {
        due = new Due(test);
        document = oneBlank(read());
    }

    private static String read() {
        try {
            return Files.readString(DOCUMENT);
        } catch (IOException e) {
            System.out.println(DOCUMENT + " is not there: what is quoted of it is not compared");
            return "";
        }
    }

    private static String oneBlank(String text) {
        return text.replaceAll("\\s+", " ");
    }

    /** What is asked from here on is asked because the document says so. */
    void says(String words) {
        endSentence();
        sentence = words;
        asked = 0;
        due.same("the document says: " + words, document.isEmpty() || document.contains(oneBlank(words)), true);
    }

    /** The same of a sentence that has to stand in the section of a promise. */
    void promises(int promise, String words) {
        says(words);
        int from = document.indexOf("## Promise " + promise + ":");
        int end = document.indexOf("## ", from + 3);
        boolean stands = from >= 0 && end > from && document.substring(from, end).contains(oneBlank(words));
        due.same("promise " + promise + " says: " + words, document.isEmpty() || stands, true);
        promised |= 1 << promise;
    }

    /** Each promise of the document has been asked under a sentence of its own. */
    void allPromised(int last) {
        for (int promise = 1; promise <= last; promise++) {
            due.same("promise " + promise + " is asked", promised >> promise & 1, 1);
        }
        due.same("there is no other", document.contains("## Promise " + (last + 1) + ":"), false);
    }

    private void endSentence() {
        due.same("asked at least once: " + sentence, asked > 0, true);
    }

    void is(String call, long got, long want) {
        asked++;
        due.same(call + " [" + sentence + "]", got, want);
    }

    void is(String call, boolean got, boolean want) {
        is(call, got ? 1 : 0, want ? 1 : 0);
    }

    OneSided made(String text) {
        return due.made(text);
    }

    /** The fault of a quarter whose wrong token is marked by ^; kind 0: none. The tape is taken. */
    void quarter(String marked, int kind) {
        OneSided x = new OneSided();
        is("quarter of " + marked, Due.quarter(x, marked.replace("^", "")), fault(marked, kind));
        is("signs behind it", x.count(9), 0);
    }

    /** The fault of a day, likewise, told in a quarter. */
    void day(String told, String marked, int kind) {
        OneSided x = made(told);
        is("day of " + marked, Due.day(x, marked.replace("^", "")), fault(marked, kind));
        is("signs behind it", x.count(9), 0);
    }

    private static int fault(String marked, int kind) {
        return kind == 0 ? 0 : kind + 16 * marked.indexOf('^');
    }

    /** A call answers as is due, and leaves all as it was. */
    void leavesAll(String call, long want, Twins.Call asked) {
        Twins twins = new Twins();
        is(call, asked.on(twins.one), want);
        is(call + " leaves all as it was", twins.difference(), NONE);
    }

    /** A call with a number is refused, and leaves all as it was, but for numbers from the least to the most. */
    void refusesBeyond(String call, long want, int least, int most, Twins.Asked asked) {
        for (int other : new int[] {Integer.MIN_VALUE, -1000, least - 1, most + 1, 1000, 1 << 16, Integer.MAX_VALUE}) {
            if (other < least || other > most) {
                leavesAll(call + " with " + other, want, x -> asked.with(x, other));
            }
        }
    }

    void end() {
        endSentence();
        due.end();
    }
}
