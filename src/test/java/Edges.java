/** What the tests of the document's sentences have in common; each begins with the sentence that it is of. */
abstract class Edges extends Answers {
    static final String EIGHT_SPANS =
        "serve 0 1 1;serve 1 2 1;serve 2 3 1;serve 3 4 1;serve 4 5 1;serve 5 6 1;serve 6 7 1;serve 7 8 1;";
    /** The last one is not PARTED. */
    static final String FOUR_SPOUSES =
        "wed 0 1;part 2 1 apart 1;wed 0 2;part 3 1 apart 1;wed 0 3;part 4 1 apart 1;wed 0 4;";
    static final int[] NO_MONTHS = {-1, 1800, Integer.MIN_VALUE, Integer.MAX_VALUE};
    /** No SPOUSE where one is told; none of these is THE MEMBER or THE REST. */
    static final int[] NOBODY = {-1, 1, 4, 9, 12, Integer.MIN_VALUE, Integer.MAX_VALUE};

    private static final int[] SOME_AGES = {0, 1, 12, 60, 120, 600, 719, 960, 1428, 1439};
    private static Document document;
    private static int sentences = 0;

    static void open(Document its) {
        document = its;
    }

    static int sentences() {
        return sentences;
    }

    static void says(String heading, String words) {
        sentences++;
        at(heading + ", \"" + words + "\"");
        if (!document.quote(heading, words)) {
            amiss("the document does not say so");
        }
    }

    /** All that is told, by some ninety calls at most; neither the TAPE nor the FAULT. */
    static String state(PartedPension x) {
        StringBuilder all = new StringBuilder();
        for (int what = 0; what < 15; what++) {
            all.append(what == 6 ? "" : x.count(what) + " ");
        }
        for (int k = 0; k < x.count(0); k++) {
            all.append("span ").append(x.span(k, 0)).append(' ').append(x.span(k, 1)).append(' ').append(x.span(k, 2)).append(' ');
        }
        for (int k = 0; k < x.count(1); k++) {
            all.append("spouse ");
            for (int what = 0; what < 10; what++) {
                all.append(x.spouse(k, what)).append(' ');
            }
        }
        for (int age : SOME_AGES) {
            all.append(x.lives(age)).append(' ');
        }
        return all.toString();
    }

    static void same(String call, String got, String want) {
        due(call + " leaves all as it was", got.equals(want), true);
    }

    /** More is told behind what was told; it is a FAULT and changes nothing. */
    static void refusesText(String before, String more, int kind, int place) {
        PartedPension x = told(before);
        String was = state(x);
        due("tell of " + more, Feeder.tell(x, more), NONE);
        due("fault of " + more, x.fault(), kind + 8 * place);
        due("TAPE behind " + more, x.count(6), 0);
        same("tell of " + more, state(x), was);
    }

    /** More is told behind what was told, and can be undone. */
    static PartedPension takesText(String before, String more, int statements) {
        PartedPension x = told(before);
        String was = state(x);
        due("tell of " + more, Feeder.tell(x, more), statements);
        due("fault of " + more, x.fault(), 0);
        due("undo of " + more, x.undo(), before.isEmpty() ? 0 : 1);
        same("undo of " + more, state(x), was);
        Feeder.tell(x, more);
        return x;
    }

    static void refusesSet(String before, int what, int k, int v) {
        String call = "set(" + what + ", " + k + ", " + v + ")";
        PartedPension x = told(before);
        String was = state(x);
        due(call, x.set(what, k, v), false);
        same(call, state(x), was);
    }

    static PartedPension takesSet(String before, int what, int k, int v) {
        String call = "set(" + what + ", " + k + ", " + v + ")";
        PartedPension x = told(before);
        String was = state(x);
        due(call, x.set(what, k, v), true);
        due("undo of " + call, x.undo(), before.isEmpty() ? 0 : 1);
        same("undo of " + call, state(x), was);
        x.set(what, k, v);
        return x;
    }
}
