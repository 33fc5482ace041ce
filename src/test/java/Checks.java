/** What the tests share: counting wrong answers, and telling names, pages and reports by texts. */
final class Checks {
    private int wrong = 0;

    void due(String call, long want, long got) {
        if (got != want) {
            wrong++;
            System.out.println(call + " answered " + got + ", due is " + want);
        }
    }

    void due(String call, boolean want, boolean got) {
        due(call, want ? 1 : 0, got ? 1 : 0);
    }

    void due(String call, String want, String got) {
        if (!want.equals(got)) {
            wrong++;
            System.out.println(call + " is\n" + got + "due is\n" + want);
        }
    }

    void end() {
        if (wrong != 0) {
            System.out.println(wrong + " answers are not as due");
            System.exit(1);
        }
    }

    static void begin(VerdictPages pages, String name) {
        for (char c : name.toCharArray()) {
            if (!pages.letter(c)) {
                throw new IllegalStateException("letter refused: " + (int) c);
            }
        }
    }

    static int test(VerdictPages pages, String name, int result) {
        begin(pages, name);
        return pages.test(result);
    }

    static int open(VerdictPages pages, String name) {
        begin(pages, name);
        return pages.open();
    }

    static String nameOf(VerdictPages pages, int node) {
        StringBuilder name = new StringBuilder();
        // A bound above the six there may be: a name without an end is to fail a test, not to hang it.
        for (int i = 0; i < 10 && pages.name(node, i) != -1; i++) {
            name.append((char) pages.name(node, i));
        }
        return name.toString();
    }

    static String pageOf(VerdictPages pages) {
        StringBuilder page = new StringBuilder();
        for (int i = 0; i < pages.length(); i++) {
            page.append((char) pages.at(i));
        }
        return page.toString();
    }

    static String writtenPageOf(VerdictPages pages) {
        pages.write();
        return pageOf(pages);
    }

    static void setPage(VerdictPages pages, String page) {
        pages.cut(0);
        for (char c : page.toCharArray()) {
            if (!pages.put(c)) {
                throw new IllegalStateException("put refused: " + (int) c);
            }
        }
    }

    static int read(VerdictPages pages, String page) {
        setPage(pages, page);
        return pages.read();
    }

    /** All that the face tells of the nodes of a report, a line for each. */
    static String tellNodes(VerdictPages pages) {
        StringBuilder told = new StringBuilder();
        for (int node = 0; node < pages.nodes(); node++) {
            told.append(pages.depth(node)).append(' ').append(pages.kind(node)).append(" '")
                .append(nameOf(pages, node)).append("'\n");
        }
        return told.toString();
    }
}
