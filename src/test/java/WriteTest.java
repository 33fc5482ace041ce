/** Promise 11: write. */
public final class WriteTest {
    private static final Checks CHECKS = new Checks();

    public static void main(String[] args) {
        emptyReport();
        everyResult();
        writtenNames();
        closedSuites();
        openSuites();
        closedInOpen();
        placesOfTwoDigits();
        longestPage();
        writeReplaces();
        CHECKS.end();
    }

    private static void emptyReport() {
        CHECKS.duePage("empty", "TAP version 14\n1..0\n", new VerdictPages());
    }

    private static void everyResult() {
        VerdictPages pages = new VerdictPages();
        Checks.test(pages, "p", 0);
        Checks.test(pages, "f", 1);
        Checks.test(pages, "s", 2);
        Checks.test(pages, "k", 3);
        CHECKS.duePage("results", "TAP version 14\nok 1 - p\nnot ok 2 - f\nok 3 - s # SKIP\n"
            + "not ok 4 - k # TODO\n1..4\n", pages);
    }

    private static void writtenNames() {
        VerdictPages pages = new VerdictPages();
        pages.test(0);
        pages.test(2);
        Checks.test(pages, " # \\~", 3);
        Checks.open(pages, "######");
        pages.close();
        Checks.open(pages, "\\\\\\\\\\\\");
        CHECKS.duePage("names", "TAP version 14\nok 1 - \nok 2 -  # SKIP\nnot ok 3 -  \\# \\\\~ # TODO\n"
            + "# Subtest: \\#\\#\\#\\#\\#\\#\n    1..0\nok 4 - \\#\\#\\#\\#\\#\\#\n"
            + "# Subtest: \\\\\\\\\\\\\\\\\\\\\\\\\nBail out!\n", pages);
    }

    private static void closedSuites() {
        VerdictPages pages = new VerdictPages();
        Checks.open(pages, "a");
        Checks.open(pages, "b");
        Checks.open(pages, "c");
        Checks.test(pages, "x", 1);
        pages.close();
        Checks.open(pages, "d");
        pages.close();
        pages.close();
        Checks.test(pages, "y", 0);
        pages.close();
        Checks.open(pages, "e");
        Checks.test(pages, "z", 3);
        pages.close();
        CHECKS.duePage("closed", "TAP version 14\n"
            + "# Subtest: a\n"
            + "    # Subtest: b\n"
            + "        # Subtest: c\n"
            + "            not ok 1 - x\n"
            + "            1..1\n"
            + "        not ok 1 - c\n"
            + "        # Subtest: d\n"
            + "            1..0\n"
            + "        ok 2 - d\n"
            + "        1..2\n"
            + "    not ok 1 - b\n"
            + "    ok 2 - y\n"
            + "    1..2\n"
            + "not ok 1 - a\n"
            + "# Subtest: e\n"
            + "    not ok 1 - z # TODO\n"
            + "    1..1\n"
            + "ok 2 - e\n"
            + "1..2\n", pages);
    }

    private static void openSuites() {
        VerdictPages pages = new VerdictPages();
        Checks.test(pages, "t", 0);
        Checks.open(pages, "a");
        CHECKS.duePage("one open", "TAP version 14\nok 1 - t\n# Subtest: a\nBail out!\n", pages);
        Checks.open(pages, "b");
        Checks.open(pages, "c");
        Checks.test(pages, "x", 1);
        String begin = "TAP version 14\nok 1 - t\n# Subtest: a\n    # Subtest: b\n        # Subtest: c\n"
            + "            not ok 1 - x\n";
        CHECKS.duePage("three open", begin + "Bail out!\n", pages);
        pages.close();
        begin = begin + "            1..1\n        not ok 1 - c\n";
        CHECKS.duePage("two open", begin + "Bail out!\n", pages);
        pages.close();
        begin = begin + "        1..1\n    not ok 1 - b\n";
        CHECKS.duePage("one left", begin + "Bail out!\n", pages);
        pages.close();
        CHECKS.duePage("none left", begin + "    1..1\nnot ok 2 - a\n1..2\n", pages);
    }

    private static void closedInOpen() {
        VerdictPages pages = new VerdictPages();
        Checks.open(pages, "a");
        Checks.open(pages, "b");
        pages.close();
        Checks.test(pages, "x", 0);
        CHECKS.duePage("closed in open", "TAP version 14\n# Subtest: a\n    # Subtest: b\n        1..0\n"
            + "    ok 1 - b\n    ok 2 - x\nBail out!\n", pages);
    }

    private static void placesOfTwoDigits() {
        VerdictPages pages = new VerdictPages();
        StringBuilder want = new StringBuilder("TAP version 14\n");
        for (int place = 1; place <= 24; place++) {
            pages.test(0);
            want.append("ok ").append(place).append(" - \n");
            CHECKS.duePage("a row of " + place, want + "1.." + place + "\n", pages);
        }
    }

    /** The longest lines there are: suites of the longest written name, as deep as they may be. */
    private static void longestPage() {
        VerdictPages pages = new VerdictPages();
        StringBuilder want = new StringBuilder("TAP version 14\n");
        String name = "\\#\\#\\#\\#\\#\\#";
        Checks.open(pages, "######");
        Checks.open(pages, "######");
        want.append("# Subtest: ").append(name).append("\n    # Subtest: ").append(name).append('\n');
        for (int place = 1; place <= 22; place++) {
            Checks.open(pages, "######");
            pages.close();
            want.append("        # Subtest: ").append(name).append("\n            1..0\n        ok ")
                .append(place).append(" - ").append(name).append('\n');
        }
        pages.close();
        pages.close();
        want.append("        1..22\n    ok 1 - ").append(name).append("\n    1..1\nok 1 - ").append(name)
            .append("\n1..1\n");
        CHECKS.duePage("longest", want.toString(), pages);
        CHECKS.due("longest: read()", 0, pages.read());
    }

    private static void writeReplaces() {
        VerdictPages pages = new VerdictPages();
        Checks.setPage(pages, "x".repeat(3000));
        CHECKS.duePage("after a full page", "TAP version 14\n1..0\n", pages);
        Checks.begin(pages, "n");
        pages.write();
        CHECKS.due("write leaves the nodes", 0, pages.nodes());
        pages.test(0);
        CHECKS.due("write leaves the name", "0 0 'n'\n", Checks.tellNodes(pages));
        CHECKS.due("test leaves the page", "TAP version 14\n1..0\n", Checks.pageOf(pages));
    }
}
