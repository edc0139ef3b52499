/** Counts the answers that are not the ones that are due, and ends a test by them. */
final class Check {
    private int wrong = 0;
    private int checks = 0;
    private int sentences = 0;
    private int broken = 0;

    void due(String what, Object got, Object want) {
        checks++;
        if (!want.equals(got)) {
            wrong++;
            if (wrong <= 50) {
                System.out.println(what + " answered " + got + ", due is " + want);
            }
        }
    }

    /** The test of one sentence of the document; it is told apart from the others how it ended. */
    void sentence(String words, Runnable test) {
        int wrongBefore = wrong;
        int checksBefore = checks;
        try {
            test.run();
        } catch (RuntimeException | StackOverflowError thrown) {
            thrown.printStackTrace(System.out);
            due("a call", thrown, "an answer");
        }
        due("the number of checks grows", checks > checksBefore, true);
        sentences++;
        if (wrong > wrongBefore) {
            broken++;
            System.out.println("BROKEN: " + words);
        }
    }

    void end() {
        if (sentences > 0) {
            System.out.println(sentences + " sentences, " + broken + " of them broken");
        }
        System.out.println(checks + " answers, " + wrong + " of them wrong");
        if (wrong != 0 || checks == 0) {
            System.exit(1);
        }
    }

    /** The file of a tree at a path in words: its kind and its lines. */
    static String file(RenameMerge m, int tree, int path) {
        StringBuilder text = new StringBuilder();
        text.append(switch (m.kind(tree, path)) {
            case 0 -> "none";
            case 1 -> "plain";
            case 2 -> "link";
            default -> "?";
        });
        for (int i = 0; i < m.length(tree, path); i++) {
            text.append(' ').append(m.line(tree, path, i));
        }
        return text.toString();
    }

    /** The staged file of a version at a path in words: its lines. */
    static String staged(RenameMerge m, int version, int path) {
        int length = m.staged(version, path);
        StringBuilder text = new StringBuilder(length == RenameMerge.NONE ? "none" : "lines");
        for (int i = 0; i < length; i++) {
            text.append(' ').append(m.stagedLine(version, path, i));
        }
        return text.toString();
    }

    /** Puts the same plain file into all three trees. */
    static void everywhere(RenameMerge m, int path, int text) {
        for (int tree = 0; tree <= 2; tree++) {
            m.put(tree, path, text, false);
        }
    }

    /** A plain file of a side goes from one path to another and has the text there. */
    static void move(RenameMerge m, int side, int from, int to, int text) {
        m.drop(side, from);
        m.put(side, to, text, false);
    }
}
