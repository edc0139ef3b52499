import java.util.StringJoiner;

/**
 * Trees and answers in short words, for the tests of the document's boundary cases.
 *
 * <p>A tree is written as its files: "8:123 9~45" is a plain file at path 8 with the lines 1 2 3 and a
 * link at path 9 with the lines 4 5. Lines 10 to 15 are a to f, and the marks OPEN, OLD, MIDDLE and CLOSE
 * are {@code <}, {@code |}, {@code =} and {@code >}. Each of the answers in words asks at most 64 calls
 * and those for the lines, so that an object's 512 calls are enough for several of them.
 */
final class Scene {
    private static final String LINES = "?123456789abcdef<|=>";

    private Scene() {
    }

    static RenameMerge laid(int threshold, String base, String ours, String theirs) {
        RenameMerge m = new RenameMerge(threshold);
        lay(m, 0, base);
        lay(m, 1, ours);
        lay(m, 2, theirs);
        return m;
    }

    static RenameMerge merged(int threshold, String base, String ours, String theirs) {
        RenameMerge m = laid(threshold, base, ours, theirs);
        m.merge();
        return m;
    }

    /** The side's tree is the first, the other side's the second: for what holds of either side. */
    static RenameMerge mergedBy(int side, String base, String own, String other) {
        return side == 1 ? merged(50, base, own, other) : merged(50, base, other, own);
    }

    static void lay(RenameMerge m, int tree, String files) {
        for (String file : files.isEmpty() ? new String[0] : files.split(" ")) {
            String[] words = file.split("[:~]", 2);
            m.put(tree, Integer.parseInt(words[0]), text(words[1]), file.contains("~"));
        }
    }

    /** The number that put takes for the lines: the first line is its lowest digit. */
    static int text(String lines) {
        int text = 0;
        for (int i = lines.length() - 1; i >= 0; i--) {
            text = text << 4 | LINES.indexOf(lines.charAt(i));
        }
        return text;
    }

    static String tree(RenameMerge m, int tree) {
        StringJoiner files = new StringJoiner(" ");
        int left = m.size(tree);
        for (int path = 0; path < 64 && left > 0; path++) {
            if (m.kind(tree, path) != 0) {
                files.add(path + file(m, tree, path));
                left--;
            }
        }
        return files.toString();
    }

    /** The kind and the lines of a file: ":12", "~12", or "none". */
    static String file(RenameMerge m, int tree, int path) {
        int kind = m.kind(tree, path);
        if (kind == 0) {
            return "none";
        }
        StringBuilder words = new StringBuilder(kind == 1 ? ":" : "~");
        int length = m.length(tree, path);
        for (int i = 0; i < length; i++) {
            words.append(LINES.charAt(m.line(tree, path, i)));
        }
        return words.toString();
    }

    /** The lines that are staged at a path, of the versions 0, 1 and 2: "(12) none ()". */
    static String staged(RenameMerge m, int path) {
        StringJoiner versions = new StringJoiner(" ");
        for (int version = 0; version <= 2; version++) {
            int length = m.staged(version, path);
            StringBuilder lines = new StringBuilder();
            for (int i = 0; i < length; i++) {
                lines.append(LINES.charAt(m.stagedLine(version, path, i)));
            }
            versions.add(length == RenameMerge.NONE ? "none" : "(" + lines + ")");
        }
        return versions.toString();
    }

    /** Where a path has conflicts, the path and the sum of their codes: "8:1 9:128". */
    static String conflicts(RenameMerge m) {
        StringJoiner list = new StringJoiner(" ");
        for (int path = 0; path < 64; path++) {
            if (m.conflict(path) != 0) {
                list.add(path + ":" + m.conflict(path));
            }
        }
        return list.toString();
    }

    /** The sources that are renamed by a side: "1>9 2>10". */
    static String renames(RenameMerge m, int side) {
        StringJoiner list = new StringJoiner(" ");
        for (int path = 0; path < 64; path++) {
            int target = m.renamed(side, path);
            if (target != RenameMerge.NONE) {
                list.add(path + ">" + target);
            }
        }
        return list.toString();
    }

    /** The directories that have a new place by a side or are split by it: "1>3 2>split". */
    static String places(RenameMerge m, int side) {
        StringJoiner list = new StringJoiner(" ");
        for (int directory = 0; directory < 8; directory++) {
            int place = m.newPlace(side, directory);
            if (place != RenameMerge.NONE) {
                list.add(directory + ">" + (place == RenameMerge.SPLIT ? "split" : String.valueOf(place)));
            }
        }
        return list.toString();
    }

    /** Where the files of a side stand that do not stand at their own path: "13>61". */
    static String moved(RenameMerge m, int side) {
        StringJoiner list = new StringJoiner(" ");
        for (int path = 0; path < 64; path++) {
            int stand = m.stands(side, path);
            if (stand != RenameMerge.NONE && stand != path) {
                list.add(path + ">" + stand);
            }
        }
        return list.toString();
    }
}
