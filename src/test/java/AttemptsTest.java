/** Promises 18 and 19: attempts, flaky. */
public final class AttemptsTest {
    private static final Checks CHECKS = new Checks();

    public static void main(String[] args) {
        attemptsByName();
        attemptsBySuites();
        flakyByOrder();
        flakyAtTheEnds();
        flakyByResults();
        noTests();
        afterReading();
        CHECKS.end();
    }

    private static void dueAttempts(String what, VerdictPages pages, int... want) {
        for (int node = 0; node < want.length; node++) {
            CHECKS.due(what + ": attempts(" + node + ")", want[node], pages.attempts(node));
        }
    }

    private static void attemptsByName() {
        VerdictPages pages = new VerdictPages();
        String[] names = {"a", "b", "a", "", "ab", "ba", "", "a ", " a", "a", "abcdef", "abcdeg", "abcdef"};
        for (String name : names) {
            Checks.test(pages, name, 0);
        }
        dueAttempts("names", pages, 3, 1, 3, 2, 1, 1, 2, 1, 1, 3, 2, 1, 2);
    }

    private static void attemptsBySuites() {
        VerdictPages pages = new VerdictPages();
        Checks.test(pages, "t", 0);
        Checks.open(pages, "s");
        Checks.test(pages, "t", 0);
        Checks.open(pages, "u");
        Checks.test(pages, "t", 0);
        pages.close();
        Checks.open(pages, "u");
        Checks.test(pages, "t", 0);
        pages.close();
        pages.close();
        Checks.open(pages, "u");
        Checks.open(pages, "s");
        Checks.test(pages, "t", 0);
        pages.close();
        pages.close();
        Checks.open(pages, "s");
        Checks.open(pages, "v");
        Checks.test(pages, "t", 0);
        pages.close();
        Checks.open(pages, "u");
        Checks.test(pages, "t", 0);
        Checks.test(pages, "s", 0);
        Checks.open(pages, "");
        Checks.test(pages, "t", 0);
        dueAttempts("suites", pages, 1, -1, 1, -1, 3, -1, 3, -1, -1, 1, -1, -1, 1, -1, 3, 1, -1, 1);
    }

    private static void dueFlaky(String what, boolean want, int... results) {
        VerdictPages pages = new VerdictPages();
        for (int result : results) {
            Checks.test(pages, "other", 1);
            Checks.test(pages, "t", result);
            Checks.test(pages, "passed", 0);
        }
        for (int i = 0; i < results.length; i++) {
            CHECKS.due(what + ": flaky(" + (3 * i + 1) + ")", want, pages.flaky(3 * i + 1));
            CHECKS.due(what + ": other", false, pages.flaky(3 * i));
            CHECKS.due(what + ": passed", false, pages.flaky(3 * i + 2));
        }
    }

    private static void flakyByOrder() {
        dueFlaky("failed, passed", true, 1, 0);
        dueFlaky("passed, failed", false, 0, 1);
        dueFlaky("passed, failed, passed", true, 0, 1, 0);
        dueFlaky("failed, passed, failed", true, 1, 0, 1);
        dueFlaky("failed, skipped, known, passed", true, 1, 2, 3, 0);
        dueFlaky("passed, passed, failed, failed", false, 0, 0, 1, 1);
    }

    private static void flakyAtTheEnds() {
        VerdictPages pages = new VerdictPages();
        Checks.test(pages, "t", 1);
        for (int node = 1; node < 23; node++) {
            pages.test(2);
        }
        Checks.test(pages, "t", 0);
        CHECKS.due("flaky(0), first and last", true, pages.flaky(0));
        CHECKS.due("flaky(23), first and last", true, pages.flaky(23));
        CHECKS.due("flaky(12), between", false, pages.flaky(12));
        CHECKS.due("attempts(0)", 2, pages.attempts(0));
        CHECKS.due("attempts(12)", 22, pages.attempts(12));
    }

    private static void flakyByResults() {
        for (int first = 0; first <= 3; first++) {
            dueFlaky("alone " + first, false, first);
            for (int second = 0; second <= 3; second++) {
                dueFlaky(first + " then " + second, first == 1 && second == 0, first, second);
            }
        }
    }

    private static void noTests() {
        VerdictPages pages = new VerdictPages();
        Checks.open(pages, "t");
        Checks.test(pages, "t", 1);
        pages.close();
        Checks.open(pages, "t");
        Checks.test(pages, "t", 0);
        int[] noTests = {0, 2, -1, 4, 24, Integer.MIN_VALUE, Integer.MAX_VALUE};
        for (int node : noTests) {
            CHECKS.due("attempts(" + node + ")", -1, pages.attempts(node));
            CHECKS.due("flaky(" + node + ")", false, pages.flaky(node));
        }
        CHECKS.due("attempts(1)", 2, pages.attempts(1));
        CHECKS.due("flaky(1)", true, pages.flaky(1));
        CHECKS.due("flaky(3)", true, pages.flaky(3));
        pages.reset();
        CHECKS.due("attempts(1) after reset", -1, pages.attempts(1));
        CHECKS.due("flaky(1) after reset", false, pages.flaky(1));
    }

    private static void afterReading() {
        VerdictPages pages = new VerdictPages();
        CHECKS.due("read", 0, Checks.read(pages, "TAP version 14\n# Subtest: s\n    not ok 1 - \\#\n"
            + "    ok 2 - \\# # SKIP\n    ok 3 - \\#\nBail out!\n"));
        dueAttempts("read", pages, -1, 3, 3, 3, -1);
        CHECKS.due("flaky(2) of a read report", true, pages.flaky(2));
        CHECKS.due("a new attempt", 4, Checks.test(pages, "#", 0));
        CHECKS.due("attempts(1)", 4, pages.attempts(1));
    }
}
