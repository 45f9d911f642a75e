import java.util.NoSuchElementException;

/** What the tests by hand share: short ways to make objects, and the count of answers that were not due. */
abstract class Calls {
    static final int NONE = -1;
    static final int HIDDEN = -1000000;
    static final int NO_SUCH = Integer.MIN_VALUE;

    private static String sentence = "";
    private static int sentences;
    private static int asked;
    private static int wrong;

    static void says(String words) {
        sentence = words;
        sentences++;
    }

    static void due(String call, long got, long want) {
        asked++;
        if (got != want) {
            wrong++;
            System.out.println(sentence + ": " + call + " answered " + got + ", due is " + want);
        }
    }

    static void due(String call, boolean got, boolean want) {
        due(call, got ? 1 : 0, want ? 1 : 0);
    }

    static void finish(String test) {
        System.out.println(test + ": " + sentences + " parts, " + asked + " answers asked, " + wrong + " wrong");
        if (wrong != 0) {
            System.exit(1);
        }
    }

    static int feed(SaddlerKnows x, String text) {
        int length = x.count(3);
        for (int from = 0; from < text.length(); from += 20) {
            int[] n = new int[5];
            for (int k = 0; k < 20; k++) {
                n[k / 4] = n[k / 4] << 8 | (from + k < text.length() ? text.charAt(from + k) : 0);
            }
            length = x.feed(n[0], n[1], n[2], n[3], n[4]);
        }
        return length;
    }

    static int tell(SaddlerKnows x, String text, int sort) {
        x.end(0);
        feed(x, text);
        return x.text(sort);
    }

    static SaddlerKnows county(String text) {
        SaddlerKnows x = new SaddlerKnows();
        tell(x, text, 0);
        return x;
    }

    /** A county in which this law holds. */
    static SaddlerKnows county(String text, String law) {
        SaddlerKnows x = county(text);
        tell(x, law, 1);
        x.law(0);
        return x;
    }

    static int person(SaddlerKnows x, int person, int what) {
        try {
            return x.person(person, what);
        } catch (NoSuchElementException e) {
            return NO_SUCH;
        }
    }

    static void faults(int sort, int want, String... texts) {
        for (String text : texts) {
            SaddlerKnows x = new SaddlerKnows();
            feed(x, text);
            due("fault(" + sort + ") of '" + text + "'", x.fault(sort), want);
            due("the tape behind it", x.count(3), text.length());
        }
    }
}
