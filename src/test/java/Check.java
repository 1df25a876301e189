/** What the tests of the project share: due answers, texts written byte by byte, fairs made of them. */
final class Check {
    private final String name;
    private String words = "";
    private int calls = 0;
    private int callsBefore = 0;
    private int wrong = 0;

    Check(String name) {
        this.name = name;
    }

    /** The sentence of the document that the answers from here on belong to. */
    void sentence(String next) {
        endSentence();
        words = next;
        callsBefore = calls;
    }

    private void endSentence() {
        if (!words.isEmpty() && calls == callsBefore) {
            wrong++;
            System.out.println(name + ": \"" + words + "\" has no test");
        }
    }

    void due(String call, long got, long want) {
        calls++;
        if (got != want) {
            wrong++;
            String of = words.isEmpty() ? "" : " (\"" + words + "\")";
            System.out.println(name + ": " + call + " answered " + got + ", due is " + want + of);
        }
    }

    void end() {
        endSentence();
        System.out.println(name + ": " + calls + " answers, " + wrong + " not as due");
        if (wrong != 0) {
            System.exit(1);
        }
    }

    static void write(NeverHadBefore x, String text) {
        for (int i = 0; i < text.length(); i++) {
            x.write(1, text.charAt(i));
        }
    }

    static int fault(String text) {
        NeverHadBefore x = new NeverHadBefore();
        write(x, text);
        return x.fault();
    }

    static NeverHadBefore fair(String text) {
        NeverHadBefore x = new NeverHadBefore();
        anew(x, text);
        return x;
    }

    static void anew(NeverHadBefore x, String text) {
        x.wipe();
        write(x, text);
        if (x.fair() < 0) {
            throw new IllegalStateException("no fair: " + text);
        }
    }

    /** Sorts as bits: each by its letter. */
    static int bits(String sorts) {
        int bits = 0;
        for (int i = 0; i < sorts.length(); i++) {
            bits |= 1 << (sorts.charAt(i) - 'a');
        }
        return bits;
    }
}
