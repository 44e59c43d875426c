/** Prints the answers of one test that are not as due, and ends the test with exit code 1 if there were any. */
final class Checks {
    private final String test;
    private String sentence = "";
    private int sentences;
    private int madeBefore;
    private int made;
    private int wrong;

    Checks(String test) {
        this.test = test;
    }

    interface Part {
        void run() throws ReflectiveOperationException;
    }

    /** Runs the parts one by one: what one of them throws is not as due, and keeps no other from being run. */
    void run(Part... parts) {
        for (Part part : parts) {
            try {
                part.run();
            } catch (ReflectiveOperationException | RuntimeException thrown) {
                made++;
                wrong++;
                System.out.println(test + ": threw " + thrown + saidWhere());
            }
        }
        end();
    }

    /**
     * The answers from here on are those to which a sentence of the document holds the class, at one of its edges:
     * where it stands, its words (those left out are "[..]"), the edge.
     */
    void sentence(String section, String words, String edge) {
        endSentence();
        sentence = section + ": " + words + " -- " + edge;
        sentences++;
        madeBefore = made;
    }

    void due(String call, long got, long want) {
        due(call, String.valueOf(got), String.valueOf(want));
    }

    void due(String call, boolean got, boolean want) {
        due(call, String.valueOf(got), String.valueOf(want));
    }

    void due(String call, String got, String want) {
        made++;
        if (!got.equals(want)) {
            wrong++;
            System.out.println(test + ": " + call + " answered " + got + ", due is " + want + saidWhere());
        }
    }

    void end() {
        endSentence();
        String held = sentences == 0 ? "" : sentences + " sentences, ";
        System.out.println(test + ": " + held + made + " answers, " + wrong + " not as due");
        if (wrong != 0 || made == 0) {
            System.exit(1);
        }
    }

    private void endSentence() {
        if (sentences > 0 && made == madeBefore) {
            wrong++;
            System.out.println(test + ": no answer was looked at" + saidWhere());
        }
    }

    private String saidWhere() {
        return sentences == 0 ? "" : " [" + sentence + "]";
    }
}
