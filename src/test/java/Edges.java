import java.util.ArrayList;
import java.util.List;

/** How the edges that the document names are tested: each sentence by a test of its own, which bears its words. */
abstract class Edges {
    static final int BAD = -1, NONE = -4;
    /** No text: the months of a new object. */
    static final String FIRST = "";
    static final String ONE = "t0,1,5,0;a0;";
    static final String TWO = "t0,1,0,1;t0,2,5,1;h0,3;h1,4;a0;";
    static final String EIGHT = "t0,1,5,0;t0,1,5,1;t0,1,5,2;t0,1,5,3;t0,1,5,4;t0,1,5,5;t0,1,5,6;t0,1,5,7;";
    static final String ALL_ASKED = "a0;a1;a2;a3;a4;a5;a6;a7;";
    static final String SEVEN_HELPERS = "h0,1;h0,1;h0,1;h0,1;h0,1;h0,1;h0,1;";
    static final Due due = new Due("edges");

    /** On the months of a text, the calls answer so. */
    static void edge(String sentence, String text, String calls) {
        due.promise(sentence);
        Told.laid(due, text).calls(calls);
    }

    /** On the months of a text, behind some calls, each of the refused ones is answered so, and nothing changes. */
    static void refused(String sentence, String text, String before, String refused) {
        due.promise(sentence);
        for (String call : refused.split(" ")) {
            Told with = Told.laid(due, text);
            Told without = Told.laid(due, text);
            with.calls(before);
            without.calls(before);
            with.calls(call);
            due.texts("behind " + call, with.portraits().toString(), without.portraits().toString());
        }
    }

    /** Of the numbers put for # in a call, those from least to most are told, the others are BAD and change nothing. */
    static void only(String sentence, String text, String before, String call, int least, int most) {
        due.promise(sentence);
        for (int number : new int[] {least, most}) {
            Told told = Told.laid(due, text);
            told.calls(before);
            due.holds(call + " of " + number + " is not BAD", told.answerTo(call.replace("#", "" + number)) != BAD);
        }
        for (int number : beside(least, most)) {
            refused(sentence, text, before, call.replace("#", "" + number) + "=BAD");
        }
    }

    /** Numbers beside least to most: next to these, far off, and such as look alike when bits are cut. */
    private static List<Integer> beside(int least, int most) {
        int[] some = {least - 1, most + 1, -1, Integer.MIN_VALUE, Integer.MAX_VALUE, least + 32, most + 64, least + 256,
            most - 256, least + 65536, Integer.MIN_VALUE + most};
        List<Integer> beside = new ArrayList<>();
        for (int number : some) {
            if ((number < least || number > most) && !beside.contains(number)) {
                beside.add(number);
            }
        }
        return beside;
    }
}
