import java.util.function.Consumer;

/** The sentences of promises 11 and 12 that name an edge, a test for each. */
public final class ReadEdgesTest {
    private static final Checks CHECKS = new Checks();
    private static final String TITLE = "TAP version 14\n";

    /** A page with each kind of line, that ends with a plan. */
    private static final String[] PLANNED = {"TAP version 14", "ok 1 - a", "not ok 2 - b", "# Subtest: s",
        "    ok 1 - c # SKIP", "    # Subtest: u", "        not ok 1 - d # TODO", "        # Subtest: v",
        "            1..0", "        ok 2 - v", "        1..2", "    ok 2 - u", "    not ok 3 - e", "    1..3",
        "not ok 3 - s", "1..3"};

    /** A page with each kind of line, that ends with bailing out. */
    private static final String[] BAILED = {"TAP version 14", "not ok 1 -  # TODO", "# Subtest: a",
        "    # Subtest: b", "        ok 1 - c", "        1..1", "    ok 1 - b", "    # Subtest: d",
        "        # Subtest: \\#\\\\", "            not ok 1 - e", "Bail out!"};

    private static final String[][] SAMPLES = {{"TAP version 14", "1..0"}, PLANNED, BAILED};

    public static void main(String[] args) {
        CHECKS.run(
            ReadEdgesTest::writeAnswersTheLength,
            ReadEdgesTest::writeReplacesThePage,
            ReadEdgesTest::writeLeavesTheRest,
            ReadEdgesTest::readOfEachSmallestPage,
            ReadEdgesTest::readOf24Nodes,
            ReadEdgesTest::readOfTheMostLines,
            ReadEdgesTest::readReplacesTheReport,
            ReadEdgesTest::readKeepsNameAndPage,
            ReadEdgesTest::theFirstWrongLine,
            ReadEdgesTest::onlyTheFirstOfTwoWrongLines,
            ReadEdgesTest::aLineThatIsThereTwice,
            ReadEdgesTest::aLineThatIsLeftOut,
            ReadEdgesTest::aLineTooLongOrTooShort,
            ReadEdgesTest::fourSpacesMoreOrLess,
            ReadEdgesTest::theMissingLine,
            ReadEdgesTest::theEmptyPage,
            ReadEdgesTest::theLineThatIsNotEnded,
            ReadEdgesTest::charactersBehindTheLastEnd,
            ReadEdgesTest::linesBehindThePlan,
            ReadEdgesTest::linesBehindBailingOut,
            ReadEdgesTest::rightLinesAtTheWrongPlace,
            ReadEdgesTest::numbersOfOneAndTwoDigits,
            ReadEdgesTest::tooManyNodes,
            ReadEdgesTest::tooManyOpenSuites,
            ReadEdgesTest::theReportStays,
            ReadEdgesTest::theReportStaysOpen);
        CHECKS.end();
    }

    private static String pageOf(String[] lines) {
        return String.join("\n", lines) + "\n";
    }

    private static void dueRead(int want, String page) {
        VerdictPages pages = new VerdictPages();
        CHECKS.due("read of\n" + page + "<", want, Checks.read(pages, page));
    }

    private static String[] withLine(String[] lines, int number, String line) {
        String[] changed = lines.clone();
        changed[number - 1] = line;
        return changed;
    }

    private static void writeAnswersTheLength() {
        CHECKS.about("Promise 11: The page becomes that of the report: its length.", "the answer");
        CHECKS.due("no nodes", 20, new VerdictPages().write());
        CHECKS.due("one open suite", 37, Checks.made("{").write());
        CHECKS.due("a test", 28, Checks.made("=0").write());
        VerdictPages deep = Checks.made("######{", "######{");
        while (deep.nodes() < 24) {
            Checks.make(deep, "######{", "}");
        }
        CHECKS.due("24 suites, two of them open", 1784, deep.write());
        Checks.make(deep, "}", "}");
        CHECKS.due("24 suites, all closed", 1846, deep.write());
        CHECKS.due("length", 1846, deep.length());
    }

    private static void writeReplacesThePage() {
        CHECKS.about("Promise 11: The page becomes that of the report", "whatever it was");
        for (String before : new String[] {"", "x", "x".repeat(19), "x".repeat(20), "x".repeat(21), "\n".repeat(99)}) {
            VerdictPages pages = new VerdictPages();
            Checks.setPage(pages, before);
            CHECKS.duePage("behind a page of " + before.length(), TITLE + "1..0\n", pages);
        }
        VerdictPages pages = Checks.made("a=0", "b=1");
        CHECKS.duePage("two tests", TITLE + "ok 1 - a\nnot ok 2 - b\n1..2\n", pages);
        CHECKS.duePage("written again", TITLE + "ok 1 - a\nnot ok 2 - b\n1..2\n", pages);
        pages.reset();
        CHECKS.duePage("written shorter", TITLE + "1..0\n", pages);
    }

    private static void writeLeavesTheRest() {
        CHECKS.about("Promise 11: The page becomes that of the report", "and nothing else changes");
        VerdictPages pages = Checks.made("a{", "b{", "c=1", "}");
        Checks.begin(pages, "n");
        pages.write();
        CHECKS.due("nodes", "0 6 'a'\n1 5 'b'\n2 1 'c'\n", Checks.tellNodes(pages));
        CHECKS.due("test", 3, pages.test(2));
        CHECKS.due("nodes", "0 6 'a'\n1 5 'b'\n2 1 'c'\n1 2 'n'\n", Checks.tellNodes(pages));
    }

    private static void readOfEachSmallestPage() {
        CHECKS.about("Promise 12: If the page is that of some report, the report becomes this one, "
            + "and the answer is 0.", "the smallest");
        String[] pages = {TITLE + "1..0\n", TITLE + "ok 1 - \n1..1\n", TITLE + "not ok 1 - \n1..1\n",
            TITLE + "ok 1 -  # SKIP\n1..1\n", TITLE + "not ok 1 -  # TODO\n1..1\n", TITLE + "# Subtest: \nBail out!\n",
            TITLE + "# Subtest: \n    1..0\nok 1 - \n1..1\n"};
        String[] nodes = {"", "0 0 ''\n", "0 1 ''\n", "0 2 ''\n", "0 3 ''\n", "0 6 ''\n", "0 4 ''\n"};
        for (int i = 0; i < pages.length; i++) {
            VerdictPages read = Checks.made("x{", "y=1");
            CHECKS.due("read of\n" + pages[i], 0, Checks.read(read, pages[i]));
            CHECKS.due("nodes of\n" + pages[i], nodes[i], Checks.tellNodes(read));
        }
    }

    private static void readOf24Nodes() {
        CHECKS.about("Promise 12: If the page is that of some report, the report becomes this one, "
            + "and the answer is 0.", "24 nodes");
        VerdictPages pages = Checks.made("{", "{", "{");
        Checks.fill(pages, 24);
        pages.write();
        pages.reset();
        CHECKS.due("read", 0, pages.read());
        CHECKS.due("nodes", 24, pages.nodes());
        CHECKS.due("one more", -2, pages.test(0));
        for (int suite = 2; suite >= 0; suite--) {
            CHECKS.due("close", true, pages.close());
            CHECKS.due("kind(" + suite + ")", 4, pages.kind(suite));
        }
        CHECKS.due("close of none", false, pages.close());
    }

    private static void readOfTheMostLines() {
        CHECKS.about("Promise 12: If the page is that of some report, the report becomes this one, "
            + "and the answer is 0.", "the most lines");
        VerdictPages pages = new VerdictPages();
        while (pages.nodes() < 24) {
            Checks.make(pages, "{", "}");
        }
        pages.write();
        pages.reset();
        CHECKS.due("read of 74 lines", 0, pages.read());
        CHECKS.due("nodes", 24, pages.nodes());
        pages.put('\n');
        CHECKS.due("read of 75 lines", -75, pages.read());
        pages.cut(pages.length() - 1 - "1..24\n".length());
        CHECKS.due("read of 73 lines", -74, pages.read());
    }

    private static void readReplacesTheReport() {
        CHECKS.about("Promise 12: the report becomes this one");
        VerdictPages pages = Checks.made("old{", "old{", "old{", "old=1");
        CHECKS.due("read", 0, Checks.read(pages, TITLE + "ok 1 - a\n1..1\n"));
        CHECKS.due("nodes", "0 0 'a'\n", Checks.tellNodes(pages));
        CHECKS.due("no suite is open", false, pages.close());
        CHECKS.due("test", 1, pages.test(2));
        CHECKS.due("at the top", 0, pages.depth(1));
        CHECKS.due("read of two open suites", 0,
            Checks.read(pages, TITLE + "# Subtest: b\n    # Subtest: c\nBail out!\n"));
        CHECKS.due("test", 2, pages.test(1));
        CHECKS.due("in both", 2, pages.depth(2));
        CHECKS.due("open", 3, pages.open());
        CHECKS.due("a fourth", -2, pages.open());
        for (int i = 0; i < 3; i++) {
            CHECKS.due("close", true, pages.close());
        }
        CHECKS.due("close of none", false, pages.close());
        CHECKS.due("kinds", "0 5 'b'\n1 5 'c'\n2 1 ''\n2 4 ''\n", Checks.tellNodes(pages));
    }

    private static void readKeepsNameAndPage() {
        CHECKS.about("Promise 12: If the page is that of some report, the report becomes this one",
            "and nothing else changes");
        for (String begun : new String[] {"", "n", "abcdef"}) {
            VerdictPages pages = new VerdictPages();
            Checks.begin(pages, begun);
            String page = TITLE + "# Subtest: s\nBail out!\n";
            CHECKS.due("read", 0, Checks.read(pages, page));
            CHECKS.due("the page", page, Checks.pageOf(pages));
            CHECKS.due("read again", 0, pages.read());
            CHECKS.due("test", 1, pages.test(0));
            CHECKS.due("nodes", "0 6 's'\n1 0 '" + begun + "'\n", Checks.tellNodes(pages));
        }
    }

    private static void theFirstWrongLine() {
        CHECKS.about("Promise 12: the first k - 1 lines of the page are also the first lines of the page of some "
            + "report, the first k are not");
        for (String[] lines : SAMPLES) {
            dueRead(0, pageOf(lines));
            for (int number = 1; number <= lines.length; number++) {
                for (String wrong : new String[] {"", " ", "x", "TAP version 1", "ok", "1..", "#", "Bail out"}) {
                    dueRead(-number, pageOf(withLine(lines, number, wrong)));
                }
            }
        }
    }

    private static void onlyTheFirstOfTwoWrongLines() {
        CHECKS.about("Promise 12: the first k - 1 lines of the page are also the first lines of the page of some "
            + "report, the first k are not", "the first of two");
        for (int first = 1; first <= PLANNED.length; first++) {
            for (int second = first + 1; second <= PLANNED.length; second++) {
                dueRead(-first, pageOf(withLine(withLine(PLANNED, first, "x"), second, "x")));
            }
        }
    }

    /** A line that stands a second time is wrong, for its number, its depth or its plan then is. */
    private static void aLineThatIsThereTwice() {
        CHECKS.about("Promise 12: the first k are not", "a line is there twice");
        for (int number = 1; number <= PLANNED.length; number++) {
            StringBuilder page = new StringBuilder();
            for (int i = 1; i <= PLANNED.length; i++) {
                page.append((PLANNED[i - 1] + "\n").repeat(i == number ? 2 : 1));
            }
            dueRead(-(number + 1), page.toString());
        }
    }

    private static void aLineThatIsLeftOut() {
        CHECKS.about("Promise 12: the first k are not", "a line is left out");
        // A test before a suite is missed where that suite ends, for its place is another one then.
        int[] shows = {1, 2, 14, 4, 11, 6, 9, 8, 9, 10, 11, 12, 13, 14, 15, 16};
        for (int number = 1; number <= PLANNED.length; number++) {
            StringBuilder page = new StringBuilder();
            for (int i = 1; i <= PLANNED.length; i++) {
                page.append(i == number ? "" : PLANNED[i - 1] + "\n");
            }
            dueRead(-shows[number - 1], page.toString());
        }
    }

    private static void aLineTooLongOrTooShort() {
        CHECKS.about("Promise 12: the first k are not", "one character more or less");
        for (String[] lines : SAMPLES) {
            for (int number = 1; number <= lines.length; number++) {
                String line = lines[number - 1];
                dueRead(-number, pageOf(withLine(lines, number, " " + line)));
                dueRead(-number, pageOf(withLine(lines, number, line + "#")));
                dueRead(-number, pageOf(withLine(lines, number, line.substring(1))));
            }
        }
        for (String line : new String[] {"TAP version 14", "1..3", "Bail out!", "    1..3", "    ok 1 - c # SKIP"}) {
            for (String[] lines : SAMPLES) {
                for (int number = 1; number <= lines.length; number++) {
                    if (lines[number - 1].equals(line)) {
                        dueRead(-number, pageOf(withLine(lines, number, line.substring(0, line.length() - 1))));
                        dueRead(-number, pageOf(withLine(lines, number, line + " ")));
                        dueRead(-number, pageOf(withLine(lines, number, line + "0")));
                    }
                }
            }
        }
    }

    private static void fourSpacesMoreOrLess() {
        CHECKS.about("Promise 12: the first k are not", "four spaces more or less");
        for (String[] lines : SAMPLES) {
            for (int number = 1; number <= lines.length; number++) {
                String line = lines[number - 1];
                dueRead(-number, pageOf(withLine(lines, number, "    " + line)));
                if (line.startsWith("    ")) {
                    dueRead(-number, pageOf(withLine(lines, number, line.substring(4))));
                    dueRead(-number, pageOf(withLine(lines, number, line.trim())));
                }
            }
        }
    }

    private static void theMissingLine() {
        CHECKS.about("Promise 12: when the page has just k - 1 lines, each of them ended by the character 10, they are "
            + "the beginning of the page of some report, but not all of it.");
        for (String[] lines : SAMPLES) {
            StringBuilder page = new StringBuilder();
            for (int number = 1; number < lines.length; number++) {
                page.append(lines[number - 1]).append('\n');
                dueRead(-(number + 1), page.toString());
            }
            dueRead(0, page + lines[lines.length - 1] + "\n");
        }
    }

    private static void theEmptyPage() {
        CHECKS.about("Promise 12: when the page has just k - 1 lines", "none at all");
        CHECKS.due("read of a new object's page", -1, new VerdictPages().read());
        VerdictPages pages = Checks.made("a=0");
        pages.write();
        pages.cut(0);
        CHECKS.due("read of a page cut to nothing", -1, pages.read());
        CHECKS.due("nodes", "0 0 'a'\n", Checks.tellNodes(pages));
        dueRead(-1, "\n");
        dueRead(-1, "\n\n");
    }

    private static void theLineThatIsNotEnded() {
        CHECKS.about("Promise 12: (Characters behind the last 10 are a line that is not ended; such a line is never "
            + "that of a page.)");
        for (String[] lines : SAMPLES) {
            String page = pageOf(lines);
            int line = 1;
            for (int length = 0; length < page.length(); length++) {
                // Where the cut is between two lines, that is the missing line's number too.
                line += length > 0 && page.charAt(length - 1) == '\n' ? 1 : 0;
                dueRead(-line, page.substring(0, length));
            }
            dueRead(0, page);
        }
    }

    private static void charactersBehindTheLastEnd() {
        CHECKS.about("Promise 12: Characters behind the last 10 are a line that is not ended", "behind a whole page");
        for (String[] lines : SAMPLES) {
            for (String behind : new String[] {" ", "x", "1", "1..0", "Bail out!", "TAP version 14", "\\"}) {
                dueRead(-(lines.length + 1), pageOf(lines) + behind);
            }
        }
        VerdictPages pages = new VerdictPages();
        CHECKS.due("read", -3, Checks.read(pages, TITLE + "1..0\n "));
        pages.cut(pages.length() - 1);
        CHECKS.due("read without it", 0, pages.read());
    }

    private static void linesBehind(String[] lines) {
        int behind = -(lines.length + 1);
        for (String line : new String[] {"", " ", "    ", "x", "1..0", "1..1", "1..3", "1..4", "Bail out!", "ok 1 - ",
            "ok 4 - ", "    ok 1 - ", "# Subtest: ", "TAP version 14", lines[lines.length - 1]}) {
            dueRead(behind, pageOf(lines) + line + "\n");
            dueRead(behind, pageOf(lines) + line + "\n" + lines[lines.length - 1] + "\n");
        }
        dueRead(behind, pageOf(lines) + pageOf(lines));
    }

    private static void linesBehindThePlan() {
        CHECKS.about("Promise 12: the first k are not", "lines behind the plan of the top");
        linesBehind(new String[] {"TAP version 14", "1..0"});
        linesBehind(PLANNED);
    }

    private static void linesBehindBailingOut() {
        CHECKS.about("Promise 12: the first k are not", "lines behind 'Bail out!'");
        linesBehind(new String[] {"TAP version 14", "# Subtest: ", "Bail out!"});
        linesBehind(BAILED);
    }

    private static void rightLinesAtTheWrongPlace() {
        CHECKS.about("Promise 12: the first k are not", "a line of pages, but not there");
        dueRead(-2, TITLE + "Bail out!\n");
        dueRead(-3, TITLE + "ok 1 - a\nBail out!\n");
        dueRead(-5, TITLE + "# Subtest: \n    1..0\nok 1 - \nBail out!\n");
        dueRead(-4, TITLE + "# Subtest: \n    1..0\nBail out!\n");
        dueRead(-4, TITLE + "# Subtest: \n    1..0\n    ok 1 - \n");
        dueRead(-4, TITLE + "# Subtest: \n    1..0\nok 1 - x\n");
        dueRead(-4, TITLE + "# Subtest: \n    1..0\nnot ok 1 - \n");
        dueRead(-4, TITLE + "# Subtest: \n    1..0\nok 1 -  # SKIP\n");
        dueRead(-5, TITLE + "# Subtest: \n    not ok 1 - \n    1..1\nok 1 - \n");
        dueRead(-5, TITLE + "# Subtest: \n    not ok 1 -  # TODO\n    1..1\nnot ok 1 - \n");
        dueRead(-3, TITLE + "# Subtest: \nok 1 - \n");
        dueRead(-3, TITLE + "# Subtest: \n1..1\n");
        dueRead(-3, TITLE + "# Subtest: \n    1..1\n");
        dueRead(-2, TITLE + "    1..0\n");
        dueRead(-2, TITLE + TITLE);
    }

    private static void numbersOfOneAndTwoDigits() {
        CHECKS.about("Promise 12: the first k are not", "numbers of one digit and of two");
        StringBuilder lines = new StringBuilder(TITLE);
        for (int place = 1; place <= 24; place++) {
            for (String wrong : new String[] {"", "0" + place, place + "0", "" + (place - 1), "" + (place + 1),
                "-" + place,
                " " + place, place + " ", "" + (place + 10), "0", "1" + place}) {
                dueRead(-(place + 1), lines + "ok " + wrong + " - \n");
            }
            dueRead(-(place + 1), lines + "1.." + place + "\n");
            dueRead(-(place + 1), lines + "1..0" + (place - 1) + "\n");
            dueRead(-(place + 1), lines + "1.." + (place - 1) + "0\n");
            dueRead(0, lines + "1.." + (place - 1) + "\n");
            lines.append("ok ").append(place).append(" - \n");
        }
        dueRead(0, lines + "1..24\n");
        dueRead(-26, lines + "1..2\n");
        dueRead(-26, lines + "1..4\n");
        dueRead(-26, lines + "1..25\n");
    }

    private static void tooManyNodes() {
        CHECKS.about("Promise 12: the first k are not", "a 25th node");
        StringBuilder tests = new StringBuilder(TITLE);
        StringBuilder suites = new StringBuilder(TITLE);
        for (int place = 1; place <= 24; place++) {
            tests.append("ok ").append(place).append(" - \n");
            suites.append("# Subtest: \n    1..0\nok ").append(place).append(" - \n");
        }
        dueRead(-26, tests + "ok 25 - \n1..25\n");
        dueRead(-26, tests + "# Subtest: \nBail out!\n");
        dueRead(-74, suites + "ok 25 - \n1..25\n");
        dueRead(-74, suites + "# Subtest: \n    1..0\nok 25 - \n1..25\n");
        dueRead(0, tests + "1..24\n");
        dueRead(0, suites + "1..24\n");
    }

    private static void tooManyOpenSuites() {
        CHECKS.about("Promise 12: the first k are not", "a fourth open suite");
        String three = TITLE + "# Subtest: a\n    # Subtest: b\n        # Subtest: c\n";
        dueRead(0, three + "Bail out!\n");
        dueRead(-5, three + "            # Subtest: d\nBail out!\n");
        dueRead(-6, three + "            ok 1 - \n            # Subtest: d\nBail out!\n");
        dueRead(0, three + "            1..0\n        ok 1 - c\n        # Subtest: d\nBail out!\n");
    }

    private static void theReportStays() {
        CHECKS.about("Promise 12: Otherwise the report stays");
        Consumer<VerdictPages> making = pages -> {
            Checks.make(pages, "a{", "b=1", "}", "c=3");
            Checks.begin(pages, "n");
        };
        String[] wrong = {"", "x", TITLE, TITLE + "ok 1 - x\nok 2 - y\n",
            TITLE + "ok 1 - x\nok 2 - y\nok 3 - z\n1..4\n",
            TITLE + "ok 1 - x\n1..1\n\n", TITLE + "1..0", TITLE + "# Subtest: x\nBail out!\n "};
        for (String page : wrong) {
            CHECKS.dueNoChange("read of\n" + page + "<", making.andThen(pages -> Checks.setPage(pages, page)),
                VerdictPages::read);
        }
        VerdictPages pages = Checks.made("a=0");
        CHECKS.due("a wrong page", -3, Checks.read(pages, TITLE + "ok 1 - b\n"));
        CHECKS.due("a page", 0, Checks.read(pages, TITLE + "ok 1 - c\n1..1\n"));
        CHECKS.due("a wrong page again", -4, Checks.read(pages, TITLE + "ok 1 - d\nok 2 - d\n"));
        CHECKS.due("nodes", "0 0 'c'\n", Checks.tellNodes(pages));
    }

    private static void theReportStaysOpen() {
        CHECKS.about("Promise 12: Otherwise the report stays", "with its open suites");
        VerdictPages pages = Checks.made("a{", "b{");
        CHECKS.due("read", -4, Checks.read(pages, TITLE + "# Subtest: x\n    1..0\n"));
        CHECKS.due("test", 2, pages.test(1));
        CHECKS.due("in both", 2, pages.depth(2));
        CHECKS.due("close", true, pages.close());
        CHECKS.due("close", true, pages.close());
        CHECKS.due("close of none", false, pages.close());
        CHECKS.due("read", -3, Checks.read(pages, TITLE + "# Subtest: x\n"));
        CHECKS.due("none is open", false, pages.close());
        CHECKS.due("nodes", "0 5 'a'\n1 5 'b'\n2 1 ''\n", Checks.tellNodes(pages));
    }
}
