/** A report of tests in suites, and the page of lines that tells it. */
public final class VerdictPages {
    public static final int BAD = -1;
    public static final int FULL = -2;

    private static final int NONE = -1;

    private static final int MOST_NODES = 24;
    private static final int MOST_OPEN = 3;
    private static final int MOST_LETTERS = 6;
    private static final int MOST_CHARACTERS = 3000;

    private static final int PASSED = 0;
    private static final int FAILED = 1;
    private static final int SKIPPED = 2;
    private static final int KNOWN = 3;
    private static final int GOOD_SUITE = 4;
    private static final int FAILED_SUITE = 5;
    private static final int OPEN_SUITE = 6;

    private static final char LINE_END = 10;
    private static final String TITLE = "TAP version 14";
    private static final String INDENT = "    ";
    private static final String SUBTEST = "# Subtest: ";
    private static final String OK = "ok ";
    private static final String NOT_OK = "not ok ";
    private static final String DASH = " - ";
    private static final String SKIP = " # SKIP";
    private static final String TODO = " # TODO";
    private static final String PLAN = "1..";
    private static final String BAIL_OUT = "Bail out!";

    private final Page page;
    private Report report;
    // A page is read into this one, so that a page that is none leaves the report as it was.
    private Report spare;
    private long begunName;

    public VerdictPages() {
        page = new Page();
        report = new Report();
        spare = new Report();
        begunName = Names.EMPTY;
    }

    public boolean letter(char c) {
        int size = Names.sizeOf(begunName);
        if (!isPlain(c) || size >= MOST_LETTERS) {
            return false;
        }
        begunName = Names.withLetter(begunName, size, c);
        return true;
    }

    public int open() {
        return addWithBegunName(OPEN_SUITE);
    }

    public boolean close() {
        return report.closeLastOpen();
    }

    public int test(int result) {
        if (result < PASSED || result > KNOWN) {
            return BAD;
        }
        return addWithBegunName(result);
    }

    public void reset() {
        report.removeAll();
    }

    public int nodes() {
        return report.size();
    }

    public int kind(int node) {
        return report.has(node) ? report.kindOf(node) : BAD;
    }

    public int depth(int node) {
        return report.has(node) ? report.depthOf(node) : BAD;
    }

    public int name(int node, int i) {
        long name = report.nameOf(node);
        return i >= 0 && i < Names.sizeOf(name) ? Names.codeAt(name, i) : NONE;
    }

    public int write() {
        new PageWriter(page, report).writeAll();
        return page.size();
    }

    public int read() {
        int answer = new PageReader(page.cursor(), spare).readAll();
        if (answer == 0) {
            Report old = report;
            report = spare;
            spare = old;
        }
        return answer;
    }

    public int length() {
        return page.size();
    }

    public int at(int i) {
        return page.codeAt(i);
    }

    public boolean put(char c) {
        return isOfPages(c) && page.add(c);
    }

    public boolean poke(int i, char c) {
        return isOfPages(c) && page.replace(i, c);
    }

    public boolean cut(int n) {
        return page.shorten(n);
    }

    public int attempts(int node) {
        if (!report.isTest(node)) {
            return BAD;
        }
        int found = 0;
        for (int other = 0; other < report.size(); other++) {
            if (report.areAttempts(node, other)) {
                found++;
            }
        }
        return found;
    }

    public boolean flaky(int node) {
        boolean failed = false;
        for (int other = 0; other < report.size(); other++) {
            if (report.areAttempts(node, other)) {
                int result = report.kindOf(other);
                if (failed && result == PASSED) {
                    return true;
                }
                failed = failed || result == FAILED;
            }
        }
        return false;
    }

    private int addWithBegunName(int kind) {
        int number = report.addNode(kind, begunName);
        if (number >= 0) {
            begunName = Names.EMPTY;
        }
        return number;
    }

    private static boolean isPlain(char c) {
        return c >= 32 && c <= 126;
    }

    private static boolean isOfPages(char c) {
        return c == LINE_END || isPlain(c);
    }

    /**
     * Names, each in one long, so that they are copied and compared as numbers: seven bits a
     * character, the first one lowest. No character has the code 0, so the bits tell the end.
     */
    private static final class Names {
        static final long EMPTY = 0L;
        private static final int BITS = 7;
        private static final int MASK = 127;

        static int sizeOf(long name) {
            int size = 0;
            while (size < MOST_LETTERS && codeAt(name, size) != 0) {
                size++;
            }
            return size;
        }

        static int codeAt(long name, int i) {
            return (int) (name >>> (BITS * i)) & MASK;
        }

        static long withLetter(long name, int i, int code) {
            return name | ((long) code << (BITS * i));
        }
    }

    /**
     * The nodes of a report by their numbers. Nodes are added to the innermost row alone, so their
     * numbers are the order in which they were added.
     */
    private static final class Report {
        private final int[] kinds = new int[MOST_NODES];
        private final int[] depths = new int[MOST_NODES];
        private final int[] suites = new int[MOST_NODES];
        private final long[] names = new long[MOST_NODES];
        private int count = 0;
        private int lastOpen = NONE;
        private int openCount = 0;

        void removeAll() {
            count = 0;
            lastOpen = NONE;
            openCount = 0;
        }

        int size() {
            return count;
        }

        boolean has(int node) {
            return node >= 0 && node < count;
        }

        boolean isTest(int node) {
            return has(node) && kinds[node] <= KNOWN;
        }

        int kindOf(int node) {
            return has(node) ? kinds[node] : NONE;
        }

        int depthOf(int node) {
            return has(node) ? depths[node] : NONE;
        }

        /** The suite in whose row a node is, NONE for the top. */
        int suiteOf(int node) {
            return has(node) ? suites[node] : NONE;
        }

        long nameOf(int node) {
            return has(node) ? names[node] : Names.EMPTY;
        }

        /** The last open suite, in whose row nodes are added, NONE for the top. */
        int innermost() {
            return lastOpen;
        }

        int openSuites() {
            return openCount;
        }

        /** In how many suites the nodes of a suite's row are, 0 for the top. */
        int rowDepth(int suite) {
            return has(suite) ? depths[suite] + 1 : 0;
        }

        int rowSize(int suite) {
            return countInRow(suite, count);
        }

        /** The place of a node in its row, counted from 1. */
        int placeOf(int node) {
            return has(node) ? countInRow(suites[node], node + 1) : NONE;
        }

        int addNode(int kind, long name) {
            if (count >= MOST_NODES || (kind == OPEN_SUITE && openCount >= MOST_OPEN)) {
                return FULL;
            }
            int node = count;
            kinds[node] = kind;
            depths[node] = openCount;
            suites[node] = lastOpen;
            names[node] = name;
            count++;
            if (kind == OPEN_SUITE) {
                lastOpen = node;
                openCount++;
            }
            return node;
        }

        boolean closeLastOpen() {
            if (!has(lastOpen)) {
                return false;
            }
            kinds[lastOpen] = hasFailedBehind(lastOpen) ? FAILED_SUITE : GOOD_SUITE;
            lastOpen = suites[lastOpen];
            openCount--;
            return true;
        }

        boolean areAttempts(int one, int other) {
            if (!isTest(one) || !isTest(other) || depths[one] != depths[other]) {
                return false;
            }
            int a = one;
            int b = other;
            for (int depth = depths[one]; depth >= 0; depth--) {
                if (nameOf(a) != nameOf(b)) {
                    return false;
                }
                a = suiteOf(a);
                b = suiteOf(b);
            }
            return true;
        }

        /** All nodes behind the last open suite are in it. */
        private boolean hasFailedBehind(int suite) {
            for (int node = suite + 1; node < count; node++) {
                if (kinds[node] == FAILED) {
                    return true;
                }
            }
            return false;
        }

        private int countInRow(int suite, int end) {
            int found = 0;
            for (int node = 0; node < end && node < count; node++) {
                if (suites[node] == suite) {
                    found++;
                }
            }
            return found;
        }
    }

    /** The characters of a page; it has room for the page of every report. */
    private static final class Page {
        private final char[] characters = new char[MOST_CHARACTERS];
        private int size = 0;

        int size() {
            return size;
        }

        int codeAt(int i) {
            return i >= 0 && i < size ? characters[i] : NONE;
        }

        boolean add(char c) {
            if (size >= MOST_CHARACTERS) {
                return false;
            }
            characters[size] = c;
            size++;
            return true;
        }

        boolean replace(int i, char c) {
            if (i < 0 || i >= size) {
                return false;
            }
            characters[i] = c;
            return true;
        }

        boolean shorten(int newSize) {
            if (newSize < 0 || newSize > size) {
                return false;
            }
            size = newSize;
            return true;
        }

        void addText(String text) {
            for (int i = 0; i < text.length(); i++) {
                add(text.charAt(i));
            }
        }

        void addIndent(int depth) {
            for (int i = 0; i < depth; i++) {
                addText(INDENT);
            }
        }

        void addNumber(int number) {
            if (number >= 10) {
                add((char) ('0' + number / 10));
            }
            add((char) ('0' + number % 10));
        }

        void addWritten(long name) {
            int letters = Names.sizeOf(name);
            for (int i = 0; i < letters; i++) {
                char c = (char) Names.codeAt(name, i);
                if (c == '\\' || c == '#') {
                    add('\\');
                }
                add(c);
            }
        }

        LineCursor cursor() {
            return new LineCursor(characters, size);
        }
    }

    /** Writes the page of a report. */
    private static final class PageWriter {
        private final Page page;
        private final Report report;

        PageWriter(Page page, Report report) {
            this.page = page;
            this.report = report;
        }

        void writeAll() {
            page.shorten(0);
            page.addText(TITLE);
            page.add(LINE_END);
            int row = NONE;
            for (int node = 0; node < report.size(); node++) {
                endSuites(row, report.suiteOf(node));
                if (report.isTest(node)) {
                    writeVerdict(node);
                    row = report.suiteOf(node);
                } else {
                    writeSubtest(node);
                    row = node;
                }
            }
            endSuites(row, report.innermost());
            writeEnd();
        }

        /** Ends the suites from that of one row outwards, until the other row goes on. */
        private void endSuites(int row, int goesOn) {
            int suite = row;
            for (int i = 0; i < MOST_OPEN && suite != goesOn; i++) {
                writePlan(suite);
                writeVerdict(suite);
                suite = report.suiteOf(suite);
            }
        }

        private void writeEnd() {
            if (report.openSuites() == 0) {
                writePlan(NONE);
            } else {
                page.addText(BAIL_OUT);
                page.add(LINE_END);
            }
        }

        private void writePlan(int suite) {
            page.addIndent(report.rowDepth(suite));
            page.addText(PLAN);
            page.addNumber(report.rowSize(suite));
            page.add(LINE_END);
        }

        private void writeSubtest(int suite) {
            page.addIndent(report.depthOf(suite));
            page.addText(SUBTEST);
            page.addWritten(report.nameOf(suite));
            page.add(LINE_END);
        }

        private void writeVerdict(int node) {
            int kind = report.kindOf(node);
            page.addIndent(report.depthOf(node));
            page.addText(verdictOf(kind));
            page.addNumber(report.placeOf(node));
            page.addText(DASH);
            page.addWritten(report.nameOf(node));
            page.addText(directiveOf(kind));
            page.add(LINE_END);
        }

        private static String verdictOf(int kind) {
            return kind == FAILED || kind == KNOWN || kind == FAILED_SUITE ? NOT_OK : OK;
        }

        private static String directiveOf(int kind) {
            if (kind == SKIPPED) {
                return SKIP;
            }
            return kind == KNOWN ? TODO : "";
        }
    }

    /** A place in a page, which goes from line to line and along each. */
    private static final class LineCursor {
        private static final int NO_LETTER = 0;

        private final char[] characters;
        private final int size;
        private int spot = 0;
        private int lineEnd = -1;

        LineCursor(char[] characters, int size) {
            this.characters = characters;
            this.size = size;
        }

        boolean isBehindLastLine() {
            return lineEnd + 1 >= size;
        }

        /** Goes to the beginning of the next line; false when that line is not ended. */
        boolean goToNextLine() {
            spot = lineEnd + 1;
            for (int i = spot; i < size; i++) {
                if (characters[i] == LINE_END) {
                    lineEnd = i;
                    return true;
                }
            }
            lineEnd = size;
            return false;
        }

        boolean isAtLineEnd() {
            return spot == lineEnd;
        }

        /** Goes over a text; false, staying, when the line does not go on with it. */
        boolean skipText(String text) {
            if (text.length() > lineEnd - spot) {
                return false;
            }
            for (int i = 0; i < text.length(); i++) {
                if (characters[spot + i] != text.charAt(i)) {
                    return false;
                }
            }
            spot += text.length();
            return true;
        }

        boolean skipIndent(int depth) {
            for (int i = 0; i < depth; i++) {
                if (!skipText(INDENT)) {
                    return false;
                }
            }
            return true;
        }

        boolean skipNumber(int number) {
            return (number < 10 || skipDigit(number / 10)) && skipDigit(number % 10);
        }

        /** Goes over a written name, as far as it can; what must follow tells whether it was one. */
        long takeName() {
            long name = Names.EMPTY;
            for (int i = 0; i < MOST_LETTERS; i++) {
                int letter = takeLetter();
                if (letter == NO_LETTER) {
                    return name;
                }
                name = Names.withLetter(name, i, letter);
            }
            return name;
        }

        private int takeLetter() {
            int here = spot < lineEnd ? characters[spot] : NO_LETTER;
            int next = spot + 1 < lineEnd ? characters[spot + 1] : NO_LETTER;
            if (here == '\\' && (next == '\\' || next == '#')) {
                spot += 2;
                return next;
            }
            // A space before a bare '#' is the directive's, not the name's.
            if (here == NO_LETTER || here == '\\' || here == '#' || (here == ' ' && next == '#')) {
                return NO_LETTER;
            }
            spot++;
            return here;
        }

        private boolean skipDigit(int digit) {
            if (spot >= lineEnd || characters[spot] != '0' + digit) {
                return false;
            }
            spot++;
            return true;
        }
    }

    /**
     * Reads a page into a report, line by line. Every line that it takes leaves the beginning of
     * the page of some report, for open suites can always be closed: so the first line that it
     * does not take is the one to tell.
     */
    private static final class PageReader {
        private static final int TITLE_IS_NEXT = 0;
        private static final int ROW_GOES_ON = 1;
        private static final int SUITE_END_IS_NEXT = 2;
        private static final int NOTHING_IS_NEXT = 3;

        private final LineCursor cursor;
        private final Report report;
        private int stage = TITLE_IS_NEXT;

        PageReader(LineCursor cursor, Report report) {
            this.cursor = cursor;
            this.report = report;
        }

        int readAll() {
            report.removeAll();
            int line = 1;
            while (line <= MOST_CHARACTERS && !cursor.isBehindLastLine()) {
                if (!cursor.goToNextLine() || !takeLine() || !cursor.isAtLineEnd()) {
                    return -line;
                }
                line++;
            }
            return stage == NOTHING_IS_NEXT ? 0 : -line;
        }

        private boolean takeLine() {
            switch (stage) {
                case TITLE_IS_NEXT:
                    stage = ROW_GOES_ON;
                    return cursor.skipText(TITLE);
                case ROW_GOES_ON:
                    return takeRowLine();
                case SUITE_END_IS_NEXT:
                    stage = ROW_GOES_ON;
                    return takeSuiteEnd();
                default:
                    return false;
            }
        }

        private boolean takeRowLine() {
            int depth = report.openSuites();
            if (depth > 0 && cursor.skipText(BAIL_OUT)) {
                stage = NOTHING_IS_NEXT;
                return true;
            }
            if (!cursor.skipIndent(depth)) {
                return false;
            }
            if (cursor.skipText(PLAN)) {
                stage = depth > 0 ? SUITE_END_IS_NEXT : NOTHING_IS_NEXT;
                return cursor.skipNumber(report.rowSize(report.innermost()));
            }
            if (cursor.skipText(SUBTEST)) {
                return report.addNode(OPEN_SUITE, cursor.takeName()) >= 0;
            }
            if (cursor.skipText(OK)) {
                return takeTest(PASSED, SKIP, SKIPPED);
            }
            return cursor.skipText(NOT_OK) && takeTest(FAILED, TODO, KNOWN);
        }

        private boolean takeTest(int bareResult, String directive, int directedResult) {
            int place = report.rowSize(report.innermost()) + 1;
            if (!cursor.skipNumber(place) || !cursor.skipText(DASH)) {
                return false;
            }
            long name = cursor.takeName();
            int result = cursor.skipText(directive) ? directedResult : bareResult;
            return report.addNode(result, name) >= 0;
        }

        private boolean takeSuiteEnd() {
            int suite = report.innermost();
            report.closeLastOpen();
            return cursor.skipIndent(report.depthOf(suite))
                && cursor.skipText(report.kindOf(suite) == GOOD_SUITE ? OK : NOT_OK)
                && cursor.skipNumber(report.placeOf(suite))
                && cursor.skipText(DASH)
                && cursor.takeName() == report.nameOf(suite);
        }
    }
}
