/** Promise 12: read. */
public final class ReadTest {
    private static final Checks CHECKS = new Checks();
    private static final String TITLE = "TAP version 14\n";

    public static void main(String[] args) {
        pagesOfReports();
        titles();
        beginnings();
        linesThatAreNotEnded();
        linesBehindTheEnd();
        places();
        names();
        directives();
        plans();
        suiteEnds();
        indents();
        bailOuts();
        tooDeep();
        tooMany();
        aRefusedPageChangesNothing();
        aReadReportGoesOn();
        CHECKS.end();
    }

    private static void due(int want, String page) {
        VerdictPages pages = new VerdictPages();
        CHECKS.due("read of\n" + page + "<", want, Checks.read(pages, page));
        CHECKS.due("the page after read", page, Checks.pageOf(pages));
        if (want == 0) {
            CHECKS.due("the page written again", page, Checks.writtenPageOf(pages));
        } else {
            CHECKS.due("nodes after a refused page", 0, pages.nodes());
        }
    }

    /** A page of the title and lines, each given without its end. */
    private static void dueLines(int want, String... lines) {
        due(want, TITLE + String.join("\n", lines) + "\n");
    }

    private static void dueNodes(String want, String... lines) {
        VerdictPages pages = new VerdictPages();
        CHECKS.due("read", 0, Checks.read(pages, TITLE + String.join("\n", lines) + "\n"));
        CHECKS.due("nodes of\n" + String.join("\n", lines) + "\n", want, Checks.tellNodes(pages));
    }

    private static void pagesOfReports() {
        dueLines(0, "1..0");
        dueLines(0, "ok 1 - a", "not ok 2 - b", "ok 3 - c # SKIP", "not ok 4 - d # TODO", "1..4");
        dueLines(0, "# Subtest: a", "Bail out!");
        dueNodes("0 4 's'\n1 0 'a'\n0 5 'u'\n1 4 'v'\n2 3 ''\n1 1 'w'\n",
            "# Subtest: s", "    ok 1 - a", "    1..1", "ok 1 - s",
            "# Subtest: u", "    # Subtest: v", "        not ok 1 -  # TODO", "        1..1", "    ok 1 - v",
            "    not ok 2 - w", "    1..2", "not ok 2 - u", "1..2");
        dueNodes("0 6 'a'\n1 4 'b'\n1 6 'c'\n2 6 'd'\n3 2 'e'\n",
            "# Subtest: a", "    # Subtest: b", "        1..0", "    ok 1 - b", "    # Subtest: c",
            "        # Subtest: d", "            ok 1 - e # SKIP", "Bail out!");
    }

    private static void titles() {
        due(-1, "");
        due(-1, "\n");
        due(-1, "TAP version 14");
        due(-1, "TAP version 13\n1..0\n");
        due(-1, "TAP version 144\n1..0\n");
        due(-1, "TAP version 1\n1..0\n");
        due(-1, " TAP version 14\n1..0\n");
        due(-1, "TAP version 14 \n1..0\n");
        due(-1, "1..0\n");
        dueLines(-2, "TAP version 14", "1..0");
    }

    private static void beginnings() {
        due(-2, TITLE);
        dueLines(-3, "ok 1 - a");
        dueLines(-3, "# Subtest: a");
        dueLines(-4, "# Subtest: a", "    1..0");
        dueLines(-5, "# Subtest: a", "    1..0", "ok 1 - a");
    }

    private static void linesThatAreNotEnded() {
        due(-2, TITLE + "1..0");
        due(-2, TITLE + "o");
        due(-2, TITLE + " ");
        due(-3, TITLE + "# Subtest: a\nBail out!");
        due(-3, TITLE + "1..0\nx");
        due(-3, TITLE + "1..0\n ");
        due(-2, TITLE + "ok 1 - a");
    }

    private static void linesBehindTheEnd() {
        dueLines(-3, "1..0", "");
        dueLines(-3, "1..0", "1..0");
        dueLines(-3, "1..0", "ok 1 - a");
        dueLines(-3, "1..0", "Bail out!");
        dueLines(-4, "# Subtest: a", "Bail out!", "");
        dueLines(-4, "# Subtest: a", "Bail out!", "Bail out!");
        dueLines(-4, "# Subtest: a", "Bail out!", "    ok 1 - b");
        dueLines(-3, "1..0", "1..0", "1..0", "1..0");
    }

    private static void places() {
        dueLines(-2, "ok 0 - a", "1..1");
        dueLines(-2, "ok 2 - a", "1..1");
        dueLines(-2, "ok 01 - a", "1..1");
        dueLines(-2, "ok 11 - a", "1..1");
        dueLines(-2, "ok  - a", "1..1");
        dueLines(-2, "ok - a", "1..1");
        dueLines(-2, "ok +1 - a", "1..1");
        dueLines(-3, "ok 1 - a", "ok 1 - a", "1..2");
        dueLines(-3, "ok 1 - a", "ok 3 - a", "1..2");
        dueLines(-5, "# Subtest: s", "    1..0", "ok 1 - s", "ok 1 - a", "1..2");
        dueLines(-3, "# Subtest: s", "    ok 2 - a", "Bail out!");
        dueLines(-11, "ok 1 - ", "ok 2 - ", "ok 3 - ", "ok 4 - ", "ok 5 - ", "ok 6 - ", "ok 7 - ",
            "ok 8 - ", "ok 9 - ", "ok 1 - ", "1..10");
        dueLines(-11, "ok 1 - ", "ok 2 - ", "ok 3 - ", "ok 4 - ", "ok 5 - ", "ok 6 - ", "ok 7 - ",
            "ok 8 - ", "ok 9 - ", "ok 100 - ", "1..10");
        dueLines(0, "ok 1 - ", "ok 2 - ", "ok 3 - ", "ok 4 - ", "ok 5 - ", "ok 6 - ", "ok 7 - ",
            "ok 8 - ", "ok 9 - ", "ok 10 - ", "1..10");
    }

    private static void names() {
        dueNodes("0 0 ''\n", "ok 1 - ", "1..1");
        dueNodes("0 0 ' '\n", "ok 1 -  ", "1..1");
        dueNodes("0 0 'abcdef'\n", "ok 1 - abcdef", "1..1");
        dueNodes("0 1 '######'\n", "not ok 1 - \\#\\#\\#\\#\\#\\#", "1..1");
        dueNodes("0 0 '\\\\'\n", "ok 1 - \\\\\\\\", "1..1");
        dueNodes("0 0 'ok 1 -'\n", "ok 1 - ok 1 -", "1..1");
        dueNodes("0 6 '1..0'\n", "# Subtest: 1..0", "Bail out!");
        dueLines(-2, "ok", "1..1");
        dueLines(-2, "ok ", "1..1");
        dueLines(-2, "ok 1", "1..1");
        dueLines(-2, "not ok 1", "1..1");
        dueLines(-2, "ok 1 -", "1..1");
        dueLines(-2, "ok 1  - a", "1..1");
        dueLines(-2, "ok 1 -a", "1..1");
        dueLines(-2, "ok 1 a", "1..1");
        dueLines(-2, "ok 1 - abcdefg", "1..1");
        dueLines(-2, "ok 1 - \\#\\#\\#\\#\\#\\#\\#", "1..1");
        dueLines(-2, "ok 1 - a\\", "1..1");
        dueLines(-2, "ok 1 - \\a", "1..1");
        dueLines(-2, "ok 1 - a\\ b", "1..1");
        dueLines(-2, "ok 1 - #", "1..1");
        dueLines(-2, "ok 1 - a#b", "1..1");
        dueLines(-2, "ok 1 - a\\\\#", "1..1");
        dueLines(-2, "# Subtest: abcdefg", "Bail out!");
        dueLines(-2, "# Subtest: a#", "Bail out!");
        dueLines(-2, "# Subtest: a\\", "Bail out!");
        dueLines(-2, "# Subtest: a # SKIP", "Bail out!");
        dueLines(-2, "# Subtest:", "Bail out!");
        dueLines(-2, "#Subtest: a", "Bail out!");
        dueLines(-2, "# subtest: a", "Bail out!");
        dueLines(-2, "# Subtest:a", "Bail out!");
        dueNodes("0 6 ''\n", "# Subtest: ", "Bail out!");
    }

    private static void directives() {
        dueNodes("0 2 ''\n", "ok 1 -  # SKIP", "1..1");
        dueNodes("0 2 ' '\n", "ok 1 -   # SKIP", "1..1");
        dueNodes("0 3 'abcde '\n", "not ok 1 - abcde  # TODO", "1..1");
        dueNodes("0 2 'abcdef'\n", "ok 1 - abcdef # SKIP", "1..1");
        dueNodes("0 2 ' # #'\n", "ok 1 -  \\# \\# # SKIP", "1..1");
        dueNodes("0 2 '\\'\n", "ok 1 - \\\\ # SKIP", "1..1");
        dueNodes("0 0 '# SKIP'\n", "ok 1 - \\# SKIP", "1..1");
        dueLines(-2, "ok 1 - # SKIP", "1..1");
        dueLines(-2, "ok 1 - a# SKIP", "1..1");
        dueLines(-2, "ok 1 - a #SKIP", "1..1");
        dueLines(-2, "ok 1 - a # skip", "1..1");
        dueLines(-2, "ok 1 - a # SKIP ", "1..1");
        dueLines(-2, "ok 1 - a # SKIPPED", "1..1");
        dueLines(-2, "ok 1 - a # SKI", "1..1");
        dueLines(-2, "ok 1 - a # ", "1..1");
        dueLines(-2, "ok 1 - a #", "1..1");
        dueLines(-2, "ok 1 - a # TODO", "1..1");
        dueLines(-2, "not ok 1 - a # SKIP", "1..1");
        dueLines(-2, "not ok 1 - a # TODO # TODO", "1..1");
        dueLines(-2, "ok 1 - abcdefg # SKIP", "1..1");
        dueLines(-2, "ok 1 - abcdef  # SKIP", "1..1");
        dueLines(-2, "notok 1 - a", "1..1");
        dueLines(-2, "not  ok 1 - a", "1..1");
        dueLines(-2, "Ok 1 - a", "1..1");
        dueLines(-2, "ok1 - a", "1..1");
    }

    private static void plans() {
        dueLines(-2, "1..1");
        dueLines(-2, "1..00");
        dueLines(-2, "1..");
        dueLines(-2, "1..0 ");
        dueLines(-2, "0..0");
        dueLines(-2, "");
        dueLines(-3, "ok 1 - a", "1..0");
        dueLines(-3, "ok 1 - a", "1..2");
        dueLines(-3, "ok 1 - a", "1..10");
        dueLines(-3, "ok 1 - a", "1..01");
        dueLines(-3, "# Subtest: s", "1..1");
        dueLines(-3, "# Subtest: s", "1..0");
        dueLines(-3, "# Subtest: s", "    1..1");
        dueLines(-4, "# Subtest: s", "    ok 1 - a", "    1..2");
        dueLines(-5, "# Subtest: s", "    1..0", "ok 1 - s", "1..2");
        dueLines(0, "# Subtest: s", "    1..0", "ok 1 - s", "1..1");
    }

    private static void suiteEnds() {
        dueLines(-4, "# Subtest: s", "    1..0", "not ok 1 - s", "1..1");
        dueLines(-4, "# Subtest: s", "    1..0", "ok 2 - s", "1..1");
        dueLines(-4, "# Subtest: s", "    1..0", "ok 1 - t", "1..1");
        dueLines(-4, "# Subtest: s", "    1..0", "ok 1 - ", "1..1");
        dueLines(-4, "# Subtest: s", "    1..0", "ok 1 - ss", "1..1");
        dueLines(-4, "# Subtest: s", "    1..0", "ok 1 - s # SKIP", "1..1");
        dueLines(-4, "# Subtest: s", "    1..0", "    ok 1 - s", "1..1");
        dueLines(-4, "# Subtest: s", "    1..0", "Bail out!");
        dueLines(-4, "# Subtest: s", "    1..0", "1..1");
        dueLines(-4, "# Subtest: s", "    1..0", "# Subtest: t", "Bail out!");
        dueLines(-4, "# Subtest: s", "    1..0", "    1..0", "ok 1 - s");
        dueLines(-4, "# Subtest: \\#", "    1..0", "ok 1 - #", "1..1");
        dueLines(-5, "# Subtest: s", "    not ok 1 - a", "    1..1", "ok 1 - s", "1..1");
        dueLines(-5, "# Subtest: s", "    not ok 1 - a # TODO", "    1..1", "not ok 1 - s", "1..1");
        dueLines(-5, "# Subtest: s", "    not ok 1 - a # TODO", "    1..1", "not ok 1 - s # TODO", "1..1");
        dueLines(-3, "# Subtest: s", "ok 1 - s", "1..1");
        dueLines(-8, "# Subtest: s", "    # Subtest: t", "        not ok 1 - a", "        1..1",
            "    not ok 1 - t", "    1..1", "ok 1 - s", "1..1");
        dueLines(0, "not ok 1 - a", "# Subtest: s", "    1..0", "ok 2 - s", "1..2");
        dueLines(-5, "not ok 1 - a", "# Subtest: s", "    1..0", "not ok 2 - s", "1..2");
    }

    private static void indents() {
        dueLines(-2, "    ok 1 - a", "1..1");
        dueLines(-2, " ok 1 - a", "1..1");
        dueLines(-2, "    # Subtest: a", "Bail out!");
        dueLines(-3, "# Subtest: s", "   ok 1 - a", "Bail out!");
        dueLines(-3, "# Subtest: s", "     ok 1 - a", "Bail out!");
        dueLines(-3, "# Subtest: s", "        ok 1 - a", "Bail out!");
        dueLines(-3, "# Subtest: s", "ok 1 - a", "Bail out!");
        dueLines(-3, "# Subtest: s", "ok 2 - a", "Bail out!");
        dueLines(-3, "# Subtest: s", "# Subtest: t", "Bail out!");
        dueLines(-3, "# Subtest: s", "    ", "Bail out!");
        dueLines(-3, "# Subtest: s", "", "Bail out!");
        dueLines(-4, "# Subtest: s", "    # Subtest: t", "    ", "Bail out!");
        dueLines(-5, "# Subtest: s", "    # Subtest: t", "        1..0", "ok 1 - t", "Bail out!");
        dueLines(-4, "# Subtest: s", "    # Subtest: t", "    1..0", "ok 1 - t", "Bail out!");
        dueLines(-4, "# Subtest: s", "    # Subtest: t", "    ok 1 - a", "Bail out!");
    }

    private static void bailOuts() {
        dueLines(-2, "Bail out!");
        dueLines(-3, "ok 1 - a", "Bail out!");
        dueLines(-3, "# Subtest: s", "    Bail out!");
        dueLines(-3, "# Subtest: s", "Bail out! ");
        dueLines(-3, "# Subtest: s", "Bail out");
        dueLines(-3, "# Subtest: s", "bail out!");
        dueLines(-5, "# Subtest: s", "    1..0", "ok 1 - s", "Bail out!");
        dueLines(0, "# Subtest: s", "    ok 1 - a", "Bail out!");
    }

    private static void tooDeep() {
        String[] three = {"# Subtest: ", "    # Subtest: ", "        # Subtest: "};
        String begin = TITLE + String.join("\n", three) + "\n";
        due(0, begin + "Bail out!\n");
        due(0, begin + "            ok 1 - \nBail out!\n");
        due(-5, begin + "            # Subtest: \nBail out!\n");
    }

    private static void tooMany() {
        StringBuilder lines = new StringBuilder(TITLE);
        for (int place = 1; place <= 23; place++) {
            lines.append("ok ").append(place).append(" - \n");
        }
        due(-25, lines.toString());
        due(0, lines + "ok 24 - \n1..24\n");
        due(-26, lines + "ok 24 - \n");
        due(-26, lines + "ok 24 - \nok 25 - \n1..25\n");
        due(-26, lines + "ok 24 - \n# Subtest: \nBail out!\n");
        due(0, lines + "# Subtest: \nBail out!\n");
        due(0, lines + "# Subtest: \n    1..0\nok 24 - \n1..24\n");
        due(-26, lines + "# Subtest: \n    ok 1 - \nBail out!\n");
        due(-26, lines + "# Subtest: \n    # Subtest: \nBail out!\n");
    }

    private static void aRefusedPageChangesNothing() {
        VerdictPages pages = new VerdictPages();
        Checks.open(pages, "s");
        Checks.test(pages, "t", 1);
        Checks.begin(pages, "begun");
        String page = TITLE + "ok 1 - a\nok 2 - b\n# Subtest: u\n    ok 1 - c\n";
        for (int i = 0; i < 3; i++) {
            CHECKS.due("read", -6, Checks.read(pages, page));
            CHECKS.due("nodes", "0 6 's'\n1 1 't'\n", Checks.tellNodes(pages));
            CHECKS.due("page", page, Checks.pageOf(pages));
        }
        CHECKS.due("the suite is still open", 2, pages.test(0));
        CHECKS.due("nodes", "0 6 's'\n1 1 't'\n1 0 'begun'\n", Checks.tellNodes(pages));
        CHECKS.due("close", true, pages.close());
        CHECKS.due("close of none", false, pages.close());
    }

    private static void aReadReportGoesOn() {
        VerdictPages pages = new VerdictPages();
        Checks.test(pages, "old", 0);
        Checks.begin(pages, "begun");
        CHECKS.due("read", 0, Checks.read(pages, TITLE + "# Subtest: a\n    # Subtest: b\n"
            + "        not ok 1 - c\nBail out!\n"));
        CHECKS.due("test with the name begun before", 3, pages.test(0));
        CHECKS.due("close b", true, pages.close());
        CHECKS.due("test", 4, Checks.test(pages, "d", 2));
        CHECKS.due("close a", true, pages.close());
        CHECKS.due("close of none", false, pages.close());
        CHECKS.due("nodes", "0 5 'a'\n1 5 'b'\n2 1 'c'\n2 0 'begun'\n1 2 'd'\n", Checks.tellNodes(pages));
        CHECKS.due("read of no page", -3, Checks.read(pages, TITLE + "ok 1 - e\n"));
        CHECKS.due("nodes stay", "0 5 'a'\n1 5 'b'\n2 1 'c'\n2 0 'begun'\n1 2 'd'\n", Checks.tellNodes(pages));
        CHECKS.due("read of another", 0, Checks.read(pages, TITLE + "1..0\n"));
        CHECKS.due("nodes then", 0, pages.nodes());
        CHECKS.due("test at the top", 0, pages.test(3));
        CHECKS.due("page", TITLE + "not ok 1 -  # TODO\n1..1\n", Checks.writtenPageOf(pages));
    }
}
