/** The sentences of promises 18 and 19 that name an edge, a test for each. */
public final class AttemptsEdgesTest {
    private static final Checks CHECKS = new Checks();

    public static void main(String[] args) {
        CHECKS.run(
            AttemptsEdgesTest::sameName,
            AttemptsEdgesTest::theTestItselfIncluded,
            AttemptsEdgesTest::suitesOneByOne,
            AttemptsEdgesTest::suitesFromTheTopOn,
            AttemptsEdgesTest::suitesOpenAndClosed,
            AttemptsEdgesTest::asManyAs24,
            AttemptsEdgesTest::attemptsOfASuite,
            AttemptsEdgesTest::attemptsOfNone,
            AttemptsEdgesTest::failedAndThenPassed,
            AttemptsEdgesTest::passedBeforeTheFailedOne,
            AttemptsEdgesTest::passedBeforeAndAfter,
            AttemptsEdgesTest::failedAndPassedAlone,
            AttemptsEdgesTest::askedOfEachAttempt,
            AttemptsEdgesTest::onlyOfItsAttempts,
            AttemptsEdgesTest::flakyInSeveralSuites,
            AttemptsEdgesTest::flakyFromFirstToLast,
            AttemptsEdgesTest::flakyOfASuite,
            AttemptsEdgesTest::flakyOfNone);
        CHECKS.end();
    }

    private static void dueAttempts(String what, VerdictPages pages, int... want) {
        for (int node = 0; node < want.length; node++) {
            CHECKS.due(what + ": attempts(" + node + ")", want[node], pages.attempts(node));
        }
    }

    private static void dueFlaky(String what, VerdictPages pages, int... want) {
        for (int node = 0; node < want.length; node++) {
            CHECKS.due(what + ": flaky(" + node + ")", want[node] == 1, pages.flaky(node));
        }
    }

    private static void sameName() {
        CHECKS.about("Promise 18: all tests of the report that have the same name");
        dueAttempts("letters", Checks.made("a=0", "b=0", "a=1", "A=0", "a=2", "b=3"), 3, 2, 3, 1, 3, 2);
        dueAttempts("lengths", Checks.made("=0", "a=0", "aa=0", "a =0", " a=0", "=0", "aaaaaa=0", "aaaaa=0",
            "aaaaaa=0"),
            2, 1, 1, 1, 1, 2, 2, 1, 2);
        dueAttempts("the first and the last letter", Checks.made("abcdef=0", "bbcdef=0", "abcdeg=0", "abcdef=0"),
            2, 1, 1, 2);
        dueAttempts("order", Checks.made("ab=0", "ba=0", "\\#=0", "#\\=0"), 1, 1, 1, 1);
    }

    private static void theTestItselfIncluded() {
        CHECKS.about("Promise 18: how many there are of the test with that number, itself included");
        for (int result = 0; result <= 3; result++) {
            dueAttempts("one alone", Checks.made("t=" + result), 1);
            dueAttempts("one in a suite", Checks.made("t{", "t=" + result), -1, 1);
        }
    }

    private static void suitesOneByOne() {
        CHECKS.about("Promise 18: whose suites, from the top on, have the same names, one by one");
        dueAttempts("the same names", Checks.made("a{", "b{", "t=0", "}", "}", "a{", "b{", "t=0"), -1, -1, 2, -1,
            -1, 2);
        dueAttempts("the inner ones differ", Checks.made("a{", "b{", "t=0", "}", "}", "a{", "c{", "t=0"),
            -1, -1, 1, -1, -1, 1);
        dueAttempts("the outer ones differ", Checks.made("a{", "b{", "t=0", "}", "}", "c{", "b{", "t=0"),
            -1, -1, 1, -1, -1, 1);
        dueAttempts("the middle ones differ",
            Checks.made("a{", "b{", "a{", "t=0", "}", "}", "}", "a{", "c{", "a{", "t=0"), -1, -1, -1, 1, -1, -1, -1, 1);
        dueAttempts("the other way round", Checks.made("a{", "b{", "t=0", "}", "}", "b{", "a{", "t=0"),
            -1, -1, 1, -1, -1, 1);
        dueAttempts("joined they are the same", Checks.made("ab{", "c{", "t=0", "}", "}", "a{", "bc{", "t=0"),
            -1, -1, 1, -1, -1, 1);
        dueAttempts("joined with the test's", Checks.made("ab{", "c=0", "}", "a{", "bc=0", "}"), -1, 1, -1, 1);
    }

    private static void suitesFromTheTopOn() {
        CHECKS.about("Promise 18: whose suites, from the top on, have the same names, one by one", "as many of them");
        dueAttempts("none, one, two and three",
            Checks.made("t=0", "t{", "t=0", "t{", "t=0", "t{", "t=0", "t=0"), 1, -1, 1, -1, 1, -1, 2, 2);
        dueAttempts("suites without a name", Checks.made("=0", "{", "=0", "{", "=0", "{", "=0"), 1, -1, 1, -1, 1,
            -1, 1);
        dueAttempts("the innermost ones are the same", Checks.made("a{", "t=0", "}", "b{", "a{", "t=0"),
            -1, 1, -1, -1, 1);
        dueAttempts("the outermost ones are the same", Checks.made("a{", "t=0", "b{", "t=0"), -1, 1, -1, 1);
    }

    private static void suitesOpenAndClosed() {
        CHECKS.about("Promise 18: whose suites, from the top on, have the same names, one by one", "open or closed");
        dueAttempts("closed good, closed not good, open",
            Checks.made("s{", "t=0", "}", "s{", "t=1", "}", "s{", "t=2", "t=3"), -1, 4, -1, 4, -1, 4, 4);
        dueAttempts("in the same suite and in another of its name",
            Checks.made("s{", "u{", "t=0", "t=0", "}", "u{", "t=0", "}", "}", "s{", "u{", "t=0"),
            -1, -1, 4, 4, -1, 4, -1, -1, 4);
    }

    private static void asManyAs24() {
        CHECKS.about("Promise 18: how many there are of the test with that number", "as many as can be");
        VerdictPages pages = new VerdictPages();
        Checks.fill(pages, 24);
        for (int node = 0; node < 24; node++) {
            CHECKS.due("attempts(" + node + ")", 24, pages.attempts(node));
        }
        CHECKS.due("attempts(24)", -1, pages.attempts(24));
    }

    private static void attemptsOfASuite() {
        CHECKS.about("Promise 18: BAD when the node is no test");
        dueAttempts("closed good, closed not good, open", Checks.made("{", "}", "{", "=1", "}", "{"), -1, -1, 1, -1);
        dueAttempts("with a test's name", Checks.made("t=0", "t{", "t{", "t{"), 1, -1, -1, -1);
    }

    /** Numbers of no node, for a report of so many. */
    private static int[] numbersOfNone(int nodes) {
        int[] numbers = new int[Checks.FAR.length + 5];
        System.arraycopy(Checks.FAR, 0, numbers, 5, Checks.FAR.length);
        numbers[0] = -1;
        numbers[1] = nodes;
        numbers[2] = nodes + 1;
        numbers[3] = 24;
        numbers[4] = 25;
        return numbers;
    }

    /** Reports of no, some and 24 nodes, with a flaky test in those that have some. */
    private static VerdictPages[] reports() {
        VerdictPages full = Checks.made("=1");
        Checks.fill(full, 24);
        VerdictPages reset = Checks.made("=1", "=0");
        reset.reset();
        return new VerdictPages[] {new VerdictPages(), reset, Checks.made("=1", "=0"), full};
    }

    private static void attemptsOfNone() {
        CHECKS.about("Promise 18: BAD when the node is no test, or there is none.");
        for (VerdictPages pages : reports()) {
            for (int node : numbersOfNone(pages.nodes())) {
                CHECKS.due("attempts(" + node + ") of " + pages.nodes(), -1, pages.attempts(node));
            }
        }
    }

    private static void failedAndThenPassed() {
        CHECKS.about("Promise 19: of its attempts one failed and one with a greater number passed.");
        dueFlaky("the next one passed", Checks.made("t=1", "t=0"), 1, 1);
        dueFlaky("a later one passed", Checks.made("t=1", "t=2", "t=3", "t=1", "t=0"), 1, 1, 1, 1, 1);
        for (int first = 0; first <= 3; first++) {
            for (int second = 0; second <= 3; second++) {
                int want = first == 1 && second == 0 ? 1 : 0;
                dueFlaky(first + " and then " + second, Checks.made("t=" + first, "t=" + second), want, want);
            }
        }
    }

    private static void passedBeforeTheFailedOne() {
        CHECKS.about("Promise 19: and one with a greater number passed.", "one passed before the failed one alone");
        dueFlaky("one", Checks.made("t=0", "t=1"), 0, 0);
        dueFlaky("more", Checks.made("t=0", "t=0", "t=1", "t=1", "t=2", "t=3"), 0, 0, 0, 0, 0, 0);
    }

    private static void passedBeforeAndAfter() {
        CHECKS.about("Promise 19: and one with a greater number passed.",
            "one passed before and one after the failed one");
        dueFlaky("passed, failed, passed", Checks.made("t=0", "t=1", "t=0"), 1, 1, 1);
        dueFlaky("failed, passed, failed", Checks.made("t=1", "t=0", "t=1"), 1, 1, 1);
        dueFlaky("passed, failed, failed, passed", Checks.made("t=0", "t=1", "t=1", "t=0"), 1, 1, 1, 1);
    }

    private static void failedAndPassedAlone() {
        CHECKS.about("Promise 19: of its attempts one failed and one with a greater number passed.",
            "one of the two alone");
        for (int result = 0; result <= 3; result++) {
            dueFlaky("one attempt with " + result, Checks.made("t=" + result), 0);
            dueFlaky("three with " + result, Checks.made("t=" + result, "t=" + result, "t=" + result), 0, 0, 0);
        }
        dueFlaky("all but passed", Checks.made("t=1", "t=2", "t=3", "t=1"), 0, 0, 0, 0);
        dueFlaky("all but failed", Checks.made("t=3", "t=2", "t=0", "t=0"), 0, 0, 0, 0);
    }

    private static void askedOfEachAttempt() {
        CHECKS.about("Promise 19: Whether the test with that number is FLAKY", "whichever of its attempts it is");
        dueFlaky("before, between and after",
            Checks.made("t=2", "t=0", "t=1", "t=3", "t=2", "t=0", "t=1", "t=3"), 1, 1, 1, 1, 1, 1, 1, 1);
    }

    private static void onlyOfItsAttempts() {
        CHECKS.about("Promise 19: of its attempts");
        dueFlaky("other names", Checks.made("t=1", "u=0", "u=1", "v=0"), 0, 0, 0, 0);
        dueFlaky("another suite", Checks.made("a{", "t=1", "}", "b{", "t=0", "}", "t=0"), 0, 0, 0, 0, 0);
        dueFlaky("another depth", Checks.made("t=1", "t{", "t=0", "t{", "t=0"), 0, 0, 0, 0, 0);
        dueFlaky("one flaky among others", Checks.made("t=1", "u=1", "t=0", "v=0", "u=2"), 1, 0, 1, 0, 0);
    }

    private static void flakyInSeveralSuites() {
        CHECKS.about("Promise 19: of its attempts", "in suites of the same names");
        dueFlaky("failed in the first, passed in the second", Checks.made("s{", "t=1", "}", "s{", "t=0"), 0, 1, 0, 1);
        dueFlaky("passed in the first, failed in the second", Checks.made("s{", "t=0", "}", "s{", "t=1"), 0, 0, 0, 0);
        dueFlaky("three deep", Checks.made("a{", "b{", "c{", "t=1", "}", "}", "b{", "c{", "t=0"), 0, 0, 0, 1, 0, 0, 1);
    }

    private static void flakyFromFirstToLast() {
        CHECKS.about("Promise 19: one failed and one with a greater number passed.",
            "the first node and the last of 24");
        VerdictPages pages = Checks.made("t=1");
        Checks.fill(pages, 23);
        Checks.test(pages, "t", 0);
        CHECKS.due("flaky(0)", true, pages.flaky(0));
        CHECKS.due("flaky(23)", true, pages.flaky(23));
        CHECKS.due("flaky(1)", false, pages.flaky(1));
        CHECKS.due("flaky(22)", false, pages.flaky(22));
    }

    private static void flakyOfASuite() {
        CHECKS.about("Promise 19: False when the node is no test");
        dueFlaky("suites", Checks.made("s{", "s=1", "s=0", "}", "s{", "}", "s{", "s=0"), 0, 1, 1, 0, 0, 1);
        dueFlaky("a suite that is not good, then one that is", Checks.made("t{", "u=1", "}", "t{", "}", "t=0"), 0,
            0, 0, 0);
        dueFlaky("a failed test, then a good suite of its name", Checks.made("t=1", "t{", "}"), 0, 0);
    }

    private static void flakyOfNone() {
        CHECKS.about("Promise 19: False when the node is no test, or there is none.");
        for (VerdictPages pages : reports()) {
            for (int node : numbersOfNone(pages.nodes())) {
                CHECKS.due("flaky(" + node + ") of " + pages.nodes(), false, pages.flaky(node));
            }
        }
    }
}
