/** Tells strands by texts. */
final class Told {
    private Told() {
    }

    static void types(WindFrontiers w, String text) {
        for (int i = 0; i < text.length(); i++) {
            w.type(text.charAt(i));
        }
    }

    /** What strand() of a new object answers to a text. */
    static int answer(String text) {
        WindFrontiers w = new WindFrontiers();
        types(w, text);
        return w.strand();
    }

    static WindFrontiers strand(String text) {
        WindFrontiers w = new WindFrontiers();
        types(w, text);
        if (w.strand() < 0) {
            throw new IllegalStateException("a test tells a text with a FAULT: " + text);
        }
        return w;
    }
}
