/** What the tests share: the answers that are due, programs for guests, and objects made ready. */
abstract class Check {
    static final int STOP = 0;
    static final int SET = 1;
    static final int ADD = 2;
    static final int LOAD = 3;
    static final int STORE = 4;
    static final int JUMP = 5;
    static final int SHARE = 6;
    static final int UNSHARE = 7;
    static final int TELL = 8;
    static final int ASK = 9;
    static final int XOR = 10;

    static final int MIN = Integer.MIN_VALUE;
    static final int MAX = Integer.MAX_VALUE;
    static final long NOTHING = 1099511627776L;

    static final int[] NO_PAGES = {-1, 24, 25, MIN, MAX};
    /** Where guest 1 is the only one. */
    static final int[] NO_GUESTS = {0, -1, 2, 6, 7, 8, MIN, MAX};
    static final int[] NO_PLACES = {-1, 64, MIN, MAX};
    static final int[] NO_PROCESSORS = {-1, 2, MIN, MAX};
    static final int[] NOT_0_TO_3 = {-1, 4, MIN, MAX};

    private static int wrong = 0;
    private static String sentence = "";

    /** What the document says there; it stands before each answer that is not as due. */
    static void says(String words) {
        sentence = words;
    }

    static void due(String call, long got, long want) {
        if (got != want) {
            wrong++;
            System.out.println(sentence + ": " + call + " answered " + got + ", due is " + want);
        }
    }

    static void due(String call, boolean got, boolean want) {
        due(call, got ? 1L : 0L, want ? 1L : 0L);
    }

    static void end() {
        System.out.println(wrong == 0 ? "all answers are as due" : wrong + " answers are not as due");
        if (wrong != 0) {
            System.exit(1);
        }
    }

    static int code(int op, int a, int b, int i) {
        return i << 8 | b << 6 | a << 4 | op;
    }

    /** The host puts these words into a page of its own, from word 0 on. */
    static void fill(GuestKeeper x, int p, int... words) {
        for (int k = 0; k < words.length; k++) {
            due("write(" + p + ", " + k + ", ..)", x.write(p, k, words[k]), true);
        }
    }

    static void wordsDue(GuestKeeper x, int p, long... words) {
        for (int k = 0; k < words.length; k++) {
            due("read(" + p + ", " + k + ")", x.read(p, k), words[k]);
        }
    }

    static void exitDue(GuestKeeper x, int n, int answer, int exit, int info) {
        due("run(" + n + ", " + answer + ")", x.run(n, answer), exit);
        due("info()", x.info(), info);
    }

    /** Guest 1 with root 23 and a pool of pages 22, 21, .. */
    static GuestKeeper withGuest(int poolPages) {
        GuestKeeper x = new GuestKeeper();
        due("create(23)", x.create(23), 1);
        for (int i = 0; i < poolPages; i++) {
            due("feed(1, " + (22 - i) + ")", x.feed(1, 22 - i), i + 1);
        }
        return x;
    }

    /** Guest 1 with a program of up to twelve words in pages 0, 1, 2 at its first places, processor 0 loaded. */
    static GuestKeeper running(int... program) {
        GuestKeeper x = withGuest(6);
        for (int k = 0; k < program.length; k++) {
            due("write", x.write(k / 4, k % 4, program[k]), true);
        }
        for (int p = 0; p < 3; p++) {
            due("donate(1, " + p + ", " + p + ")", x.donate(1, p, p), 0);
        }
        due("load(1, 0)", x.load(1, 0), true);
        return x;
    }

    /**
     * Guest 1 with a pool of six, processor 0 loaded at PC 4 with these registers; the last of them
     * comes with the answer of the next run. Pages 0 and 1 are lent at places 0 and 1; page 1, at
     * addresses 4 .. 7, has the words of the program.
     */
    static GuestKeeper atFour(int r0, int r1, int r2, int... program) {
        GuestKeeper x = withGuest(6);
        fill(x, 0, code(ASK, 0, 0, 0), code(ASK, 1, 0, 0), code(ASK, 2, 0, 0), code(ASK, 3, 0, 0));
        fill(x, 1, program);
        due("lend(1, 0, 0)", x.lend(1, 0, 0), 0);
        due("lend(1, 1, 1)", x.lend(1, 1, 1), 0);
        due("load(1, 0)", x.load(1, 0), true);
        exitDue(x, 1, 0, 3, 0);
        exitDue(x, 1, r0, 3, 0);
        exitDue(x, 1, r1, 3, 0);
        exitDue(x, 1, r2, 3, 0);
        return x;
    }

    /** All that the loaded processor keeps: what is lent is taken back, so that it faults at PC, then it tells. */
    static void processorDue(GuestKeeper x, int answer, int pc, int... registers) {
        for (int p = 0; p < 24; p++) {
            x.takeBack(p);
        }
        due("run(1, " + answer + ") at PC", x.run(1, answer), 1);
        due("PC", x.info(), pc);
        for (int i = 0; i < 2; i++) {
            int p = 14 + i;
            fill(x, p, code(TELL, 0, 0, 0), code(TELL, 1, 0, 0), code(TELL, 2, 0, 0), code(TELL, 3, 0, 0));
            due("lend(1, " + p + ", ..)", x.lend(1, p, (pc / 4 + i) % 64), 0);
        }
        for (int i = 0; i < 4; i++) {
            due("run(1, 0)", x.run(1, 0), 2);
            due("r" + (pc + i) % 4, x.info(), registers[(pc + i) % 4]);
        }
    }

    /**
     * Pages of every kind: 0 guest 1's own, 1 its own and shared, 2 lent to it, 3 its root, 4 .. 6 its
     * tables and its pool; 7 .. 9 orphans (a root, a table, a page that a guest owned); 10 taken back,
     * 11 reclaimed, 12 lent to a guest that is dead, 13 .. 23 never used. Guest 2 is dead.
     */
    static GuestKeeper withAllKinds() {
        GuestKeeper x = new GuestKeeper();
        fill(x, 0, code(SET, 0, 0, 1), code(SHARE, 0, 0, 0), code(STOP, 0, 0, 0), 70);
        due("create(3)", x.create(3), 1);
        for (int p = 4; p <= 6; p++) {
            due("feed(1, " + p + ")", x.feed(1, p), p - 3);
        }
        due("donate(1, 0, 0)", x.donate(1, 0, 0), 0);
        due("donate(1, 1, 1)", x.donate(1, 1, 1), 0);
        due("lend(1, 2, 2)", x.lend(1, 2, 2), 0);
        due("lend(1, 10, 3)", x.lend(1, 10, 3), 0);
        due("takeBack(10)", x.takeBack(10), true);
        due("create(7)", x.create(7), 2);
        due("feed(2, 8)", x.feed(2, 8), 1);
        due("feed(2, 11)", x.feed(2, 11), 2);
        due("donate(2, 9, 0)", x.donate(2, 9, 0), 0);
        due("lend(2, 12, 1)", x.lend(2, 12, 1), 0);
        due("destroy(2)", x.destroy(2), true);
        due("reclaim(11)", x.reclaim(11), true);
        due("load(1, 0)", x.load(1, 0), true);
        exitDue(x, 3, 0, 4, 0);
        due("put()", x.put(), true);
        return x;
    }
}
