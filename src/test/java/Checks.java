import java.util.function.Consumer;

/** What the tests share: counting wrong answers, and telling names, pages and reports by texts. */
final class Checks {
    /** Numbers below and above every range of the document, those that wrap around among them. */
    static final int[] FAR = {-2, -24, -65536, Integer.MIN_VALUE, Integer.MIN_VALUE + 1, 3001, 65536,
        Integer.MAX_VALUE - 1, Integer.MAX_VALUE};

    private String sentence = "";
    private int wrong = 0;

    /** Names the sentence of the document by which the answers from here on are due. */
    void about(String words) {
        sentence = "[" + words + "] ";
    }

    /** Names a sentence, and the one of its cases. */
    void about(String words, String which) {
        sentence = "[" + words + " - " + which + "] ";
    }

    void due(String call, long want, long got) {
        if (got != want) {
            wrong++;
            System.out.println(sentence + call + " answered " + got + ", due is " + want);
        }
    }

    void due(String call, boolean want, boolean got) {
        due(call, want ? 1 : 0, got ? 1 : 0);
    }

    void due(String call, String want, String got) {
        if (!want.equals(got)) {
            wrong++;
            System.out.println(sentence + call + " is\n" + got + "due is\n" + want);
        }
    }

    /** The report is written, and that is its page. */
    void duePage(String what, String want, VerdictPages pages) {
        due(what + ": write()", want.length(), pages.write());
        due(what + ": length()", want.length(), pages.length());
        due(what + ": the page", want, pageOf(pages));
    }

    /**
     * Makes two objects in the same way, and tries the call on one of them alone: all that the face
     * tells of it is then what it tells of the other.
     */
    void dueNoChange(String call, Consumer<VerdictPages> making, Consumer<VerdictPages> tried) {
        VerdictPages left = new VerdictPages();
        making.accept(left);
        VerdictPages called = new VerdictPages();
        making.accept(called);
        tried.accept(called);
        due("all after " + call, tellAll(left), tellAll(called));
    }

    /** Runs tests one by one; one that is broken off is wrong, and keeps no other from being run. */
    void run(Runnable... tests) {
        for (Runnable test : tests) {
            try {
                test.run();
            } catch (RuntimeException e) {
                wrong++;
                System.out.println(sentence + "was broken off by " + e);
            }
        }
    }

    void end() {
        if (wrong != 0) {
            System.out.println(wrong + " answers are not as due");
            System.exit(1);
        }
    }

    static void begin(VerdictPages pages, String name) {
        for (char c : name.toCharArray()) {
            if (!pages.letter(c)) {
                throw new IllegalStateException("letter refused: " + (int) c);
            }
        }
    }

    static int test(VerdictPages pages, String name, int result) {
        begin(pages, name);
        return pages.test(result);
    }

    static int open(VerdictPages pages, String name) {
        begin(pages, name);
        return pages.open();
    }

    /** Does what the marks say, in turn: "s{" opens a suite s, "}" closes one, "t=1" adds a test t. */
    static void make(VerdictPages pages, String... marks) {
        for (String mark : marks) {
            int last = mark.length() - 1;
            boolean done;
            if (mark.equals("}")) {
                done = pages.close();
            } else if (mark.endsWith("{")) {
                done = open(pages, mark.substring(0, last)) >= 0;
            } else {
                done = test(pages, mark.substring(0, last - 1), mark.charAt(last) - '0') >= 0;
            }
            if (!done) {
                throw new IllegalStateException("refused: " + mark);
            }
        }
    }

    static VerdictPages made(String... marks) {
        VerdictPages pages = new VerdictPages();
        make(pages, marks);
        return pages;
    }

    /** Adds passed tests without names until the report has that many nodes. */
    static void fill(VerdictPages pages, int nodes) {
        for (int i = 0; i < 24 && pages.nodes() < nodes; i++) {
            pages.test(0);
        }
    }

    static String nameOf(VerdictPages pages, int node) {
        StringBuilder name = new StringBuilder();
        // A bound above the six there may be: a name without an end is to fail a test, not to hang it.
        int code = pages.name(node, 0);
        for (int i = 1; i < 10 && code != -1; i++) {
            name.append((char) code);
            code = pages.name(node, i);
        }
        return name.toString();
    }

    static String pageOf(VerdictPages pages) {
        StringBuilder page = new StringBuilder();
        int length = pages.length();
        for (int i = 0; i < length; i++) {
            page.append((char) pages.at(i));
        }
        return page.toString();
    }

    static String writtenPageOf(VerdictPages pages) {
        pages.write();
        return pageOf(pages);
    }

    static void setPage(VerdictPages pages, String page) {
        pages.cut(0);
        for (char c : page.toCharArray()) {
            if (!pages.put(c)) {
                throw new IllegalStateException("put refused: " + (int) c);
            }
        }
    }

    static int read(VerdictPages pages, String page) {
        setPage(pages, page);
        return pages.read();
    }

    /** All that the face tells of the nodes of a report, a line for each. */
    static String tellNodes(VerdictPages pages) {
        StringBuilder told = new StringBuilder();
        for (int node = 0; node < pages.nodes(); node++) {
            told.append(pages.depth(node)).append(' ').append(pages.kind(node)).append(" '")
                .append(nameOf(pages, node)).append("'\n");
        }
        return told.toString();
    }

    /** All that the object holds, by calls that use it up: page, report, open suites, begun name. */
    static String tellAll(VerdictPages pages) {
        StringBuilder told = new StringBuilder("page:\n").append(pageOf(pages)).append("<\nreport of ");
        told.append(pages.nodes()).append(":\n").append(writtenPageOf(pages)).append("closed:");
        for (int i = 0; i < 5 && pages.close(); i++) {
            told.append(" one");
        }
        pages.reset();
        pages.test(0);
        return told.append("\nname: '").append(nameOf(pages, 0)).append("'\n").toString();
    }
}
