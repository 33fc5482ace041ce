import java.util.HashSet;
import java.util.Set;

/** The sentences of 'Terms' that name an edge, a test for each; and the one of the 512 calls. */
public final class TermsEdgesTest {
    private static final Checks CHECKS = new Checks();
    private static final String TITLE = "TAP version 14\n";

    public static void main(String[] args) {
        CHECKS.run(
            TermsEdgesTest::atMost512Calls,
            TermsEdgesTest::atMost24Nodes,
            TermsEdgesTest::namesOfAtMostSix,
            TermsEdgesTest::namesOf32To126,
            TermsEdgesTest::fourResults,
            TermsEdgesTest::openSuitesLieInOneAnother,
            TermsEdgesTest::noNodeInMoreThanThree,
            TermsEdgesTest::noSuiteInMoreThanTwo,
            TermsEdgesTest::theInnermostRow,
            TermsEdgesTest::goodTests,
            TermsEdgesTest::goodSuites,
            TermsEdgesTest::numbersAlongTheRows,
            TermsEdgesTest::linesAreEnded,
            TermsEdgesTest::writtenNames,
            TermsEdgesTest::fourSpacesForEachSuite,
            TermsEdgesTest::placesAsDecimalNumbers,
            TermsEdgesTest::theFirstLine,
            TermsEdgesTest::rowsWithoutNodes,
            TermsEdgesTest::plansOfRows,
            TermsEdgesTest::linesOfTests,
            TermsEdgesTest::linesOfSuites,
            TermsEdgesTest::theLastLineWhileOpen,
            TermsEdgesTest::reportsThatDiffer,
            TermsEdgesTest::constantBad,
            TermsEdgesTest::constantFull);
        CHECKS.end();
    }

    private static void atMost512Calls() {
        CHECKS.about("What it is: An object is used for at most 512 calls after it has been made");
        VerdictPages pages = new VerdictPages();
        for (int call = 1; call <= 500; call++) {
            CHECKS.due("put as call " + call, true, pages.put('x'));
        }
        for (int call = 501; call <= 510; call++) {
            CHECKS.due("letter as call " + call, call <= 506, pages.letter('a'));
        }
        CHECKS.due("test as call 511", 0, pages.test(1));
        CHECKS.due("write as call 512", 38, pages.write());
    }

    private static void atMost24Nodes() {
        CHECKS.about("Terms: A REPORT has at most 24 NODES, tests and suites, in a tree");
        VerdictPages tests = new VerdictPages();
        VerdictPages suites = new VerdictPages();
        VerdictPages both = Checks.made("{", "{", "{");
        for (int i = 0; i < 24; i++) {
            CHECKS.due("test " + i, i, tests.test(i % 4));
            CHECKS.due("open " + i, i, suites.open());
            suites.close();
            if (i >= 3) {
                CHECKS.due("test in suites " + i, i, both.test(1));
            }
        }
        for (VerdictPages pages : new VerdictPages[] {tests, suites, both}) {
            CHECKS.due("nodes", 24, pages.nodes());
            CHECKS.due("a test as the 25th", -2, pages.test(0));
            CHECKS.due("a suite as the 25th", -2, pages.open());
            CHECKS.due("nodes still", 24, pages.nodes());
        }
    }

    private static void namesOfAtMostSix() {
        CHECKS.about("Terms: A NAME is a list of at most 6 characters");
        for (int length = 0; length <= 8; length++) {
            VerdictPages pages = new VerdictPages();
            for (int i = 0; i < length; i++) {
                CHECKS.due("letter " + (i + 1), i < 6, pages.letter((char) ('a' + i)));
            }
            pages.test(0);
            CHECKS.due("the name of " + length + " letters", "abcdef".substring(0, Math.min(length, 6)),
                Checks.nameOf(pages, 0));
            CHECKS.due("name(0, 6)", -1, pages.name(0, 6));
        }
        CHECKS.due("read of 6", 0, Checks.read(new VerdictPages(), TITLE + "ok 1 - abcdef\n1..1\n"));
        CHECKS.due("read of 7", -2, Checks.read(new VerdictPages(), TITLE + "ok 1 - abcdefg\n1..1\n"));
        CHECKS.due("read of 6, all written as two", 0,
            Checks.read(new VerdictPages(), TITLE + "# Subtest: \\#\\\\\\#\\\\\\#\\\\\nBail out!\n"));
        CHECKS.due("read of 7, all written as two", -2,
            Checks.read(new VerdictPages(), TITLE + "# Subtest: \\#\\\\\\#\\\\\\#\\\\\\#\nBail out!\n"));
    }

    private static void namesOf32To126() {
        CHECKS.about("Terms: characters with codes 32 .. 126");
        int[] lastOnes = {32, 33, 125, 126};
        int[] firstOthers = {0, 10, 30, 31, 127, 128, 160, 32 + 128, 126 + 128, 32 + 256, 126 + 256, 65535};
        for (int code : lastOnes) {
            VerdictPages pages = new VerdictPages();
            CHECKS.due("letter " + code, true, pages.letter((char) code));
            pages.open();
            CHECKS.due("the name with " + code, code, pages.name(0, 0));
        }
        for (int code : firstOthers) {
            VerdictPages pages = new VerdictPages();
            CHECKS.due("letter " + code, false, pages.letter((char) code));
            pages.open();
            CHECKS.due("the name without " + code, -1, pages.name(0, 0));
        }
    }

    private static void fourResults() {
        CHECKS.about("Terms: A test has a name and a RESULT: 0 PASSED, 1 FAILED, 2 SKIPPED, 3 KNOWN.");
        VerdictPages pages = new VerdictPages();
        CHECKS.due("test(-1)", -1, pages.test(-1));
        for (int result = 0; result <= 3; result++) {
            CHECKS.due("test(" + result + ")", result, pages.test(result));
            CHECKS.due("its result", result, pages.kind(result));
        }
        CHECKS.due("test(4)", -1, pages.test(4));
    }

    private static void openSuitesLieInOneAnother() {
        CHECKS.about("Terms: The open suites lie in one another: the first one at the top, and each further one is "
            + "the last node in the one before.");
        VerdictPages pages = Checks.made("t=0", "a{", "t=0", "b{", "t=0", "c{", "t=0");
        CHECKS.due("nodes", "0 0 't'\n0 6 'a'\n1 0 't'\n1 6 'b'\n2 0 't'\n2 6 'c'\n3 0 't'\n",
            Checks.tellNodes(pages));
        for (int suite = 5; suite >= 1; suite -= 2) {
            CHECKS.due("close", true, pages.close());
            CHECKS.due("the last one is closed, " + suite, 4, pages.kind(suite));
            CHECKS.due("the one before is open", suite == 1 ? 0 : 6, pages.kind(suite - (suite == 1 ? 1 : 2)));
        }
        CHECKS.due("none is left", false, pages.close());
    }

    private static void noNodeInMoreThanThree() {
        CHECKS.about("Terms: No node is in more than 3 suites");
        VerdictPages pages = Checks.made("{", "{", "{");
        CHECKS.due("test in three", 3, pages.test(0));
        CHECKS.due("its depth", 3, pages.depth(3));
        CHECKS.due("a suite in three", -2, pages.open());
        CHECKS.due("one more test in three", 4, pages.test(0));
        CHECKS.due("its depth", 3, pages.depth(4));
        String three = TITLE + "# Subtest: \n    # Subtest: \n        # Subtest: \n";
        CHECKS.due("read, a test in three", 0,
            Checks.read(new VerdictPages(), three + "            ok 1 - \nBail out!\n"));
        CHECKS.due("read, a test in four", -6, Checks.read(new VerdictPages(),
            three + "            ok 1 - \n                ok 1 - \nBail out!\n"));
    }

    private static void noSuiteInMoreThanTwo() {
        CHECKS.about("Terms: no suite in more than 2 others (so at most 3 are open)");
        VerdictPages pages = new VerdictPages();
        for (int depth = 0; depth < 3; depth++) {
            CHECKS.due("open", depth, pages.open());
            CHECKS.due("its depth", depth, pages.depth(depth));
        }
        CHECKS.due("a fourth", -2, pages.open());
        pages.close();
        CHECKS.due("a third again", 3, pages.open());
        CHECKS.due("its depth", 2, pages.depth(3));
        CHECKS.due("a fourth again", -2, pages.open());
        String two = TITLE + "# Subtest: \n    # Subtest: \n";
        CHECKS.due("read of three", 0, Checks.read(new VerdictPages(), two + "        # Subtest: \nBail out!\n"));
        CHECKS.due("read of four", -5, Checks.read(new VerdictPages(),
            two + "        # Subtest: \n            # Subtest: \nBail out!\n"));
    }

    private static void theInnermostRow() {
        CHECKS.about("Terms: The INNERMOST row is that of the last open suite, or the top when none is open; "
            + "new nodes are added at its end.");
        VerdictPages pages = Checks.made("1=0", "a{", "2=0", "b{", "3=0", "}", "4=0", "}", "5=0", "c{", "6=0");
        CHECKS.due("nodes", "0 0 '1'\n0 4 'a'\n1 0 '2'\n1 4 'b'\n2 0 '3'\n1 0 '4'\n0 0 '5'\n0 6 'c'\n1 0 '6'\n",
            Checks.tellNodes(pages));
        CHECKS.duePage("at the ends", TITLE + "ok 1 - 1\n# Subtest: a\n    ok 1 - 2\n    # Subtest: b\n"
            + "        ok 1 - 3\n        1..1\n    ok 2 - b\n    ok 3 - 4\n    1..3\nok 2 - a\nok 3 - 5\n"
            + "# Subtest: c\n    ok 1 - 6\nBail out!\n", pages);
    }

    private static void goodTests() {
        CHECKS.about("Terms: A test is GOOD if it did not fail");
        int[] kinds = {4, 5, 4, 4};
        for (int result = 0; result <= 3; result++) {
            VerdictPages pages = Checks.made("{", "=" + result, "}");
            CHECKS.due("a suite with " + result + " alone", kinds[result], pages.kind(0));
        }
    }

    private static void goodSuites() {
        CHECKS.about("Terms: a closed suite is GOOD if all nodes in it are.");
        CHECKS.due("without nodes", 4, Checks.made("{", "}").kind(0));
        CHECKS.due("good ones alone", 4, Checks.made("{", "=0", "=2", "=3", "}").kind(0));
        CHECKS.due("the first failed", 5, Checks.made("{", "=1", "=0", "=0", "}").kind(0));
        CHECKS.due("the last failed", 5, Checks.made("{", "=0", "=0", "=1", "}").kind(0));
        CHECKS.due("a suite without nodes in it", 4, Checks.made("{", "{", "}", "}").kind(0));
        VerdictPages deep = Checks.made("{", "{", "{", "=1", "}", "{", "}", "}", "{", "=0", "}", "}");
        CHECKS.due("failed in the innermost", "0 5 ''\n1 5 ''\n2 5 ''\n3 1 ''\n2 4 ''\n1 4 ''\n2 0 ''\n",
            Checks.tellNodes(deep));
        VerdictPages around = Checks.made("=1", "{", "=0", "}", "=1", "{", "=1");
        CHECKS.due("failed before and behind it", 4, around.kind(1));
    }

    private static void numbersAlongTheRows() {
        CHECKS.about("Terms: along the rows, each suite being followed by all that is in it.");
        VerdictPages pages = new VerdictPages();
        CHECKS.due("a suite", 0, Checks.open(pages, "a"));
        CHECKS.due("a suite in it", 1, Checks.open(pages, "b"));
        CHECKS.due("a test in that", 2, Checks.test(pages, "c", 0));
        pages.close();
        CHECKS.due("a test behind that suite", 3, Checks.test(pages, "d", 0));
        pages.close();
        CHECKS.due("a test at the top", 4, Checks.test(pages, "e", 0));
        pages.write();
        CHECKS.due("read", 0, pages.read());
        CHECKS.due("numbers", "0 4 'a'\n1 4 'b'\n2 0 'c'\n1 0 'd'\n0 0 'e'\n", Checks.tellNodes(pages));
    }

    private static void linesAreEnded() {
        CHECKS.about("Terms: lines, each ended by the character 10.");
        String[][] reports = {{}, {"a=0"}, {"{"}, {"{", "}"}, {"{", "{", "=1", "}"}};
        int[] lines = {2, 3, 3, 5, 7};
        for (int i = 0; i < reports.length; i++) {
            String page = Checks.writtenPageOf(Checks.made(reports[i]));
            int ends = 0;
            for (char c : page.toCharArray()) {
                ends += c == 10 ? 1 : 0;
            }
            CHECKS.due("lines of report " + i, lines[i], ends);
            CHECKS.due("the last character of report " + i, 10, page.charAt(page.length() - 1));
        }
    }

    private static void writtenNames() {
        CHECKS.about("Terms: WRITTEN names have '\\' before each '\\' and each '#'.");
        for (char c = 32; c <= 126; c++) {
            String written = c == '\\' || c == '#' ? "\\" + c : "" + c;
            CHECKS.duePage("code " + (int) c, TITLE + "ok 1 - " + written + "\n# Subtest: " + written
                + "\n    1..0\nok 2 - " + written + "\n1..2\n", Checks.made(c + "=0", c + "{", "}"));
        }
        CHECKS.duePage("six of each", TITLE + "not ok 1 - \\#\\#\\#\\#\\#\\#\n# Subtest: \\\\\\\\\\\\\\\\\\\\\\\\\n"
            + "Bail out!\n", Checks.made("######=1", "\\\\\\\\\\\\{"));
        CHECKS.duePage("both in turn", TITLE + "not ok 1 - \\\\\\#\\\\ # TODO\nok 2 - \\#\\\\\\# # SKIP\n1..2\n",
            Checks.made("\\#\\=3", "#\\#=2"));
        CHECKS.duePage("no characters", TITLE + "ok 1 - \n# Subtest: \nBail out!\n", Checks.made("=0", "{"));
    }

    private static void fourSpacesForEachSuite() {
        CHECKS.about("Terms: A row's lines begin with four spaces for each suite in which it is (none for the top)");
        CHECKS.duePage("each depth", TITLE + "ok 1 - a\n"
            + "# Subtest: b\n"
            + "    ok 1 - c\n"
            + "    # Subtest: d\n"
            + "        ok 1 - e\n"
            + "        # Subtest: f\n"
            + "            ok 1 - g\n"
            + "            1..1\n"
            + "        ok 2 - f\n"
            + "        1..2\n"
            + "    ok 2 - d\n"
            + "    1..2\n"
            + "ok 2 - b\n"
            + "1..2\n", Checks.made("a=0", "b{", "c=0", "d{", "e=0", "f{", "g=0", "}", "}", "}"));
    }

    private static void placesAsDecimalNumbers() {
        CHECKS.about("Terms: N below is the place of a node in its row, 1, 2, .. , as a decimal number");
        VerdictPages row = new VerdictPages();
        VerdictPages inner = Checks.made("{");
        StringBuilder rowLines = new StringBuilder(TITLE);
        StringBuilder innerLines = new StringBuilder(TITLE + "# Subtest: \n");
        for (int place = 1; place <= 23; place++) {
            row.test(0);
            inner.open();
            inner.close();
            rowLines.append("ok ").append(place).append(" - \n");
            innerLines.append("    # Subtest: \n        1..0\n    ok ").append(place).append(" - \n");
            if (place == 1 || place == 9 || place == 10 || place == 19 || place == 20 || place == 23) {
                CHECKS.duePage(place + " tests", rowLines + "1.." + place + "\n", row);
                CHECKS.duePage(place + " suites in one", innerLines + "Bail out!\n", inner);
            }
        }
        row.open();
        row.close();
        CHECKS.duePage("a suite at 24", rowLines + "# Subtest: \n    1..0\nok 24 - \n1..24\n", row);
        CHECKS.duePage("each row from 1 on", TITLE + "# Subtest: \n    ok 1 - \n    1..1\nok 1 - \n# Subtest: \n"
            + "    ok 1 - \n    ok 2 - \n    1..2\nok 2 - \nok 3 - \n1..3\n",
            Checks.made("{", "=0", "}", "{", "=0", "=0", "}", "=0"));
    }

    private static void theFirstLine() {
        CHECKS.about("Terms: The first line is 'TAP version 14'.");
        CHECKS.duePage("no nodes", "TAP version 14\n1..0\n", new VerdictPages());
        CHECKS.duePage("an open suite", "TAP version 14\n# Subtest: \nBail out!\n", Checks.made("{"));
    }

    private static void rowsWithoutNodes() {
        CHECKS.about("Terms: the line '1..' and the number of its nodes.");
        CHECKS.duePage("the top without nodes", TITLE + "1..0\n", new VerdictPages());
        CHECKS.duePage("a closed suite without nodes", TITLE + "# Subtest: \n    1..0\nok 1 - \n1..1\n",
            Checks.made("{", "}"));
        CHECKS.duePage("the deepest one without nodes", TITLE + "# Subtest: \n    # Subtest: \n"
            + "        # Subtest: \n            1..0\n        ok 1 - \nBail out!\n", Checks.made("{", "{", "{", "}"));
        CHECKS.duePage("an open suite without nodes", TITLE + "# Subtest: \nBail out!\n", Checks.made("{"));
        VerdictPages reset = Checks.made("{", "=1");
        reset.reset();
        CHECKS.duePage("the top after reset", TITLE + "1..0\n", reset);
    }

    private static void plansOfRows() {
        CHECKS.about("Terms: if the row is not that of an open suite, and is not the top while some suite is open");
        VerdictPages pages = Checks.made("=0", "{", "{", "=0", "=0", "}", "{", "=0");
        String begin = TITLE + "ok 1 - \n# Subtest: \n    # Subtest: \n        ok 1 - \n        ok 2 - \n        1..2\n"
            + "    ok 1 - \n    # Subtest: \n        ok 1 - \n";
        CHECKS.duePage("two open", begin + "Bail out!\n", pages);
        pages.close();
        begin = begin + "        1..1\n    ok 2 - \n";
        CHECKS.duePage("one open", begin + "Bail out!\n", pages);
        pages.close();
        CHECKS.duePage("none open", begin + "    1..2\nok 2 - \n1..2\n", pages);
    }

    private static void linesOfTests() {
        CHECKS.about("Terms: 'ok N - NAME' (passed), 'not ok N - NAME' (failed), 'ok N - NAME # SKIP' (skipped), "
            + "'not ok N - NAME # TODO' (known).");
        CHECKS.duePage("without names", TITLE + "ok 1 - \nnot ok 2 - \nok 3 -  # SKIP\nnot ok 4 -  # TODO\n1..4\n",
            Checks.made("=0", "=1", "=2", "=3"));
        CHECKS.duePage("with six characters", TITLE + "ok 1 - abcdef\nnot ok 2 - abcdef\nok 3 - abcdef # SKIP\n"
            + "not ok 4 - abcdef # TODO\n1..4\n", Checks.made("abcdef=0", "abcdef=1", "abcdef=2", "abcdef=3"));
    }

    private static void linesOfSuites() {
        CHECKS.about("Terms: if it is closed, 'ok N - NAME' if it is good and 'not ok N - NAME' if it is not.");
        CHECKS.duePage("good", TITLE + "# Subtest: s\n    ok 1 - \n    1..1\nok 1 - s\n1..1\n",
            Checks.made("s{", "=0", "}"));
        CHECKS.duePage("good with a skipped and a known one", TITLE + "# Subtest: s\n    ok 1 -  # SKIP\n"
            + "    not ok 2 -  # TODO\n    1..2\nok 1 - s\n1..1\n", Checks.made("s{", "=2", "=3", "}"));
        CHECKS.duePage("not good", TITLE + "# Subtest: s\n    not ok 1 - \n    1..1\nnot ok 1 - s\n1..1\n",
            Checks.made("s{", "=1", "}"));
        CHECKS.duePage("open, a failed one in it", TITLE + "# Subtest: s\n    not ok 1 - \nBail out!\n",
            Checks.made("s{", "=1"));
    }

    private static void theLastLineWhileOpen() {
        CHECKS.about("Terms: If some suite is open, the last line of the page is 'Bail out!', "
            + "without spaces before it.");
        StringBuilder lines = new StringBuilder(TITLE);
        VerdictPages pages = new VerdictPages();
        for (int open = 1; open <= 3; open++) {
            pages.open();
            lines.append("    ".repeat(open - 1)).append("# Subtest: \n");
            CHECKS.duePage(open + " open", lines + "Bail out!\n", pages);
        }
        CHECKS.duePage("one was open", TITLE + "# Subtest: \n    1..0\nok 1 - \n1..1\n", Checks.made("{", "}"));
    }

    /** All reports of a few steps, by name and by shape: no page is there twice, and each is read again. */
    private static void reportsThatDiffer() {
        CHECKS.about("Terms: (So two reports that differ have different pages.)");
        String[] names = {"", " ", "#", "\\", "\\#", " #", "# SKIP", "# TODO", "ok 1 -"};
        eachHasItsPage(3, names);
        eachHasItsPage(6, new String[] {""});
    }

    private static void eachHasItsPage(int steps, String[] names) {
        Set<String> pages = new HashSet<>();
        int reports = 0;
        int choices = names.length * 5 + 1;
        int runs = (int) Math.pow(choices, steps);
        for (int run = 0; run < runs; run++) {
            VerdictPages made = reportOfRun(run, steps, names);
            if (made != null) {
                reports++;
                String page = Checks.writtenPageOf(made);
                pages.add(page);
                CHECKS.due("read of\n" + page, 0, made.read());
                CHECKS.due("write after read of\n" + page, page.length(), made.write());
            }
        }
        CHECKS.due("different pages", reports, pages.size());
        CHECKS.due("there are such reports", true, reports > 1000);
    }

    /** The steps are the digits of the run; none where a close has nothing to close, or a suite no room. */
    private static VerdictPages reportOfRun(int run, int steps, String[] names) {
        VerdictPages pages = new VerdictPages();
        int choices = names.length * 5 + 1;
        int rest = run;
        for (int step = 0; step < steps; step++) {
            int choice = rest % choices;
            rest /= choices;
            boolean done;
            if (choice == choices - 1) {
                done = pages.close();
            } else if (choice % 5 == 4) {
                done = Checks.open(pages, names[choice / 5]) >= 0;
            } else {
                done = Checks.test(pages, names[choice / 5], choice % 5) >= 0;
            }
            if (!done) {
                return null;
            }
        }
        return pages;
    }

    private static void constantBad() {
        CHECKS.about("Terms: `BAD = -1`: A number is out of its range.");
        CHECKS.due("BAD", -1, VerdictPages.BAD);
        CHECKS.due("test(4)", VerdictPages.BAD, new VerdictPages().test(4));
        CHECKS.due("kind(0)", VerdictPages.BAD, new VerdictPages().kind(0));
    }

    private static void constantFull() {
        CHECKS.about("Terms: `FULL = -2`: There is no room for another node, or another open suite.");
        CHECKS.due("FULL", -2, VerdictPages.FULL);
        CHECKS.due("another open suite", VerdictPages.FULL, Checks.made("{", "{", "{").open());
        VerdictPages full = new VerdictPages();
        Checks.fill(full, 24);
        CHECKS.due("another test", VerdictPages.FULL, full.test(0));
        CHECKS.due("another suite", VerdictPages.FULL, full.open());
    }
}
