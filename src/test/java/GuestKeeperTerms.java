/** A test of its own for each sentence of the document's 'Terms' that names a boundary. */
public final class GuestKeeperTerms extends Check {
    private GuestKeeperTerms() {
    }

    public static void main(String[] args) {
        memory();
        hostTouches();
        guests();
        tables();
        addresses();
        decoding();
        instructions();
        sharing();
        programCounter();
        exits();
        hostRegisters();
        end();
    }

    private static void memory() {
        everyWordIsItsOwn();
        wordsHoldAnyInt();
        allIsTheHostsAtFirst();
        freePages();
        wiping();
    }

    private static void everyWordIsItsOwn() {
        says("24 PAGES 0 .. 23 of four WORDS 0 .. 3, all 0 at first");
        GuestKeeper x = new GuestKeeper();
        for (int p = 0; p < 24; p++) {
            wordsDue(x, p, 0, 0, 0, 0);
        }
        for (int p = 0; p < 24; p++) {
            fill(x, p, 4 * p + 1, 4 * p + 2, 4 * p + 3, 4 * p + 4);
        }
        for (int p = 0; p < 24; p++) {
            wordsDue(x, p, 4 * p + 1, 4 * p + 2, 4 * p + 3, 4 * p + 4);
        }
    }

    private static void wordsHoldAnyInt() {
        says("WORDS (ints)");
        GuestKeeper x = new GuestKeeper();
        fill(x, 0, MIN, MAX, -1, 0);
        wordsDue(x, 0, -2147483648L, 2147483647L, -1L, 0L);
    }

    private static void allIsTheHostsAtFirst() {
        says("At first the host owns all");
        GuestKeeper x = new GuestKeeper();
        for (int p = 0; p < 24; p++) {
            due("owner(" + p + ")", x.owner(p), 0);
            due("state(" + p + ")", x.state(p), 0);
        }
    }

    private static void freePages() {
        says("The host's FREE pages are those that it owns and that are not lent");
        for (int p = 0; p < 24; p++) {
            boolean free = p >= 10;
            due("create(" + p + ")", withAllKinds().create(p), free ? 3 : -1);
            due("feed(1, " + p + ")", withAllKinds().feed(1, p), free ? 2 : -2);
            due("donate(1, " + p + ", 3)", withAllKinds().donate(1, p, 3), free ? 0 : -2);
            due("lend(1, " + p + ", 3)", withAllKinds().lend(1, p, 3), free ? 0 : -2);
        }
    }

    private static void wiping() {
        says("WIPING a page makes its words 0");
        GuestKeeper x = withGuest(2);
        fill(x, 0, MIN, MAX, -1, 7);
        due("donate(1, 0, 0)", x.donate(1, 0, 0), 0);
        due("destroy(1)", x.destroy(1), true);
        due("reclaim(0)", x.reclaim(0), true);
        wordsDue(x, 0, 0, 0, 0, 0);
    }

    private static void hostTouches() {
        whatTheHostMayTouch();
        noneIsMappedAtFirst();
        whatIsTouchedIsMapped();
        whatIsNotToBeTouchedFaultsEachTime();
        mappingEndsWithTheRight();
        mappingStaysWithTheRight();
        guestsTouchMapsNothing();
    }

    private static void guestsTouchMapsNothing() {
        says("When the host touches a page: a guest's touch maps nothing and is no host fault");
        GuestKeeper x = atFour(1, 8, 9, code(LOAD, 0, 1, 0), code(STORE, 2, 1, 1), code(LOAD, 0, 1, 4), code(STORE, 2, 1, 5));
        due("lend(1, 2, 2)", x.lend(1, 2, 2), 0);
        due("donate(1, 3, 3)", x.donate(1, 3, 3), 0);
        int before = x.faults();
        exitDue(x, 4, 0, 0, 0);
        due("state(2)", x.state(2), 1);
        due("state(3)", x.state(3), 0);
        due("faults()", x.faults(), before);
        due("read(2, 1)", x.read(2, 1), 9);
        due("faults()", x.faults(), before + 1);
    }

    private static void whatTheHostMayTouch() {
        says("THE HOST MAY TOUCH the pages that it owns (lent or not), and those that are shared");
        for (int p = 0; p < 24; p++) {
            boolean may = p == 1 || p == 2 || p >= 10;
            due("read(" + p + ", 3)", withAllKinds().read(p, 3), may ? 0 : NOTHING);
            due("write(" + p + ", 3, 8)", withAllKinds().write(p, 3, 8), may);
        }
    }

    private static void noneIsMappedAtFirst() {
        says("A page can be MAPPED for the host; at first none is");
        GuestKeeper x = new GuestKeeper();
        for (int p = 0; p < 24; p++) {
            due("state(" + p + ")", x.state(p), 0);
            due("read(" + p + ", 0)", x.read(p, 0), 0);
            due("faults()", x.faults(), p + 1);
        }
    }

    private static void whatIsTouchedIsMapped() {
        says("not mapped, that is one HOST FAULT: if it may touch the page, this is mapped now");
        for (int p = 0; p < 24; p++) {
            boolean may = p == 1 || p == 2 || p >= 10;
            int open = p == 1 || p == 2 ? 1 : 0;
            GuestKeeper x = withAllKinds();
            int before = x.faults();
            due("state(" + p + ")", x.state(p), open);
            x.write(p, 0, 0);
            due("faults() after the first touch", x.faults(), before + 1);
            due("state(" + p + ")", x.state(p), may ? open + 2 : open);
            x.write(p, 3, 0);
            x.read(p, 1);
            due("faults() after two more", x.faults(), may ? before + 1 : before + 3);
            due("state(" + p + ")", x.state(p), may ? open + 2 : open);
        }
    }

    private static void whatIsNotToBeTouchedFaultsEachTime() {
        says("the host gets what it wanted, else not");
        GuestKeeper x = withGuest(2);
        fill(x, 0, code(LOAD, 0, 0, 3), code(TELL, 0, 0, 0), 0, 5);
        due("donate(1, 0, 0)", x.donate(1, 0, 0), 0);
        int before = x.faults();
        due("write(0, 3, 6)", x.write(0, 3, 6), false);
        due("read(0, 3)", x.read(0, 3), NOTHING);
        due("faults()", x.faults(), before + 2);
        due("load(1, 0)", x.load(1, 0), true);
        exitDue(x, 2, 0, 2, 5);
    }

    private static void mappingEndsWithTheRight() {
        says("a page that the host may not touch any more is mapped no more");
        GuestKeeper x = running(code(SET, 0, 0, 1), code(SHARE, 0, 0, 0), code(SET, 0, 0, 1), code(UNSHARE, 0, 0, 0),
                code(SET, 0, 0, 2), code(SHARE, 0, 0, 0));
        int[] taken = {5, 6, 7};
        for (int p : taken) {
            due("read(" + p + ", 0)", x.read(p, 0), 0);
            due("state(" + p + ")", x.state(p), 2);
        }
        due("create(5)", x.create(5), 2);
        due("feed(1, 6)", x.feed(1, 6), 5);
        due("donate(1, 7, 3)", x.donate(1, 7, 3), 0);
        for (int p : taken) {
            due("state(" + p + ")", x.state(p), 0);
        }
        due("run(2, 0)", x.run(2, 0), 0);
        due("read(1, 3)", x.read(1, 3), 0);
        due("state(1) when shared", x.state(1), 3);
        due("run(2, 0)", x.run(2, 0), 0);
        due("state(1) when not shared", x.state(1), 0);
        due("run(2, 0)", x.run(2, 0), 0);
        due("read(2, 0)", x.read(2, 0), 0);
        due("state(2) when shared", x.state(2), 3);
        due("put()", x.put(), true);
        due("destroy(1)", x.destroy(1), true);
        due("state(2) when an orphan", x.state(2), 0);
        due("reclaim(2)", x.reclaim(2), true);
        due("state(2) when reclaimed", x.state(2), 0);
    }

    private static void mappingStaysWithTheRight() {
        says("a page that the host may touch still is mapped still");
        GuestKeeper x = withGuest(2);
        due("read(0, 0)", x.read(0, 0), 0);
        due("lend(1, 0, 0)", x.lend(1, 0, 0), 0);
        due("state(0) when lent", x.state(0), 3);
        due("takeBack(0)", x.takeBack(0), true);
        due("state(0) when taken back", x.state(0), 2);
        due("lend(1, 0, 1)", x.lend(1, 0, 1), 0);
        due("destroy(1)", x.destroy(1), true);
        due("state(0) when the guest is dead", x.state(0), 2);
        due("read(0, 0)", x.read(0, 0), 0);
        due("faults()", x.faults(), 1);
    }

    private static void guests() {
        guestsAreNumbered();
        guestsLiveUntilDestroyed();
        sixtyFourPlaces();
        heldAtOnePlace();
    }

    private static void guestsAreNumbered() {
        says("GUESTS 1, 2, .. are numbered in the order in which they are made, at most 6 in all");
        GuestKeeper x = new GuestKeeper();
        for (int g = 1; g <= 6; g++) {
            due("create(" + (20 - g) + ")", x.create(20 - g), g);
            due("pool(" + g + ")", x.pool(g), 0);
            due("pool(" + (g + 1) + ")", x.pool(g + 1), -1);
            due("destroy(" + g + ")", g % 2 == 1 && x.destroy(g), g % 2 == 1);
        }
        due("create(0)", x.create(0), -2);
        due("pool(7)", x.pool(7), -1);
    }

    private static void guestsLiveUntilDestroyed() {
        says("a guest is ALIVE until it is destroyed");
        GuestKeeper x = withGuest(0);
        due("pool(1)", x.pool(1), 0);
        due("load(1, 0)", x.load(1, 0), true);
        exitDue(x, 1, 0, 1, 0);
        due("put()", x.put(), true);
        due("pool(1)", x.pool(1), 0);
        due("destroy(1)", x.destroy(1), true);
        due("pool(1)", x.pool(1), -1);
        due("reclaim(23)", x.reclaim(23), true);
        due("create(23)", x.create(23), 2);
        due("pool(1)", x.pool(1), -1);
    }

    private static void sixtyFourPlaces() {
        says("64 PLACES 0 .. 63, each empty or holding one page");
        for (int place = 0; place < 64; place++) {
            GuestKeeper x = withGuest(2);
            due("lend(1, 0, " + place + ")", x.lend(1, 0, place), 0);
            due("lend(1, 1, " + place + ")", x.lend(1, 1, place), -3);
            due("donate(1, 1, " + place + ")", x.donate(1, 1, place), -3);
            due("takeBack(0)", x.takeBack(0), true);
            due("donate(1, 1, " + place + ")", x.donate(1, 1, place), 0);
            due("lend(1, 0, " + place + ")", x.lend(1, 0, place), -3);
        }
    }

    private static void heldAtOnePlace() {
        says("Every page that a living guest owns or that is lent to it is held at one place");
        GuestKeeper x = withGuest(2);
        due("create(10)", x.create(10), 2);
        due("feed(2, 11)", x.feed(2, 11), 1);
        due("feed(2, 12)", x.feed(2, 12), 2);
        due("lend(1, 0, 0)", x.lend(1, 0, 0), 0);
        due("donate(1, 1, 1)", x.donate(1, 1, 1), 0);
        for (int p = 0; p < 2; p++) {
            for (int g = 1; g <= 2; g++) {
                due("lend(" + g + ", " + p + ", 2)", x.lend(g, p, 2), -2);
                due("donate(" + g + ", " + p + ", 2)", x.donate(g, p, 2), -2);
            }
        }
    }

    private static void tables() {
        for (int first = 0; first < 64; first++) {
            tablesOfOnePlace(first);
            for (int second = 0; second < 64; second++) {
                if (second != first) {
                    tablesOfTwoPlaces(first, second);
                }
            }
        }
        tablesOfAllBlocks();
    }

    private static void tablesOfOnePlace(int place) {
        says("one table for each sixteen places and one for each four, place " + place);
        GuestKeeper x = withGuest(0);
        due("donate without a pool", x.donate(1, 0, place), -4);
        due("feed(1, 22)", x.feed(1, 22), 1);
        due("donate with a pool of one", x.donate(1, 0, place), -4);
        due("lend with a pool of one", x.lend(1, 0, place), -4);
        due("pool(1)", x.pool(1), 1);
        due("feed(1, 21)", x.feed(1, 21), 2);
        due("donate", x.donate(1, 0, place), 0);
        due("tables(1)", x.tables(1), 2);
        due("pool(1)", x.pool(1), 0);
    }

    private static void tablesOfTwoPlaces(int first, int second) {
        says("taken from the guest's pool; needed no more go back to it, places " + first + " and " + second);
        int fresh = (first / 16 != second / 16 ? 1 : 0) + (first / 4 != second / 4 ? 1 : 0);
        GuestKeeper x = withGuest(2);
        due("lend(1, 0, first)", x.lend(1, 0, first), 0);
        for (int fed = 0; fed < fresh; fed++) {
            due("lend(1, 1, second), too few", x.lend(1, 1, second), -4);
            due("donate(1, 1, second), too few", x.donate(1, 1, second), -4);
            due("feed(1, ..)", x.feed(1, 10 + fed), fed + 1);
        }
        due("lend(1, 1, second)", x.lend(1, 1, second), 0);
        due("pool(1)", x.pool(1), 0);
        due("tables(1)", x.tables(1), 2 + fresh);
        due("takeBack(0)", x.takeBack(0), true);
        due("pool(1)", x.pool(1), fresh);
        due("tables(1)", x.tables(1), 2);
        due("takeBack(1)", x.takeBack(1), true);
        due("pool(1)", x.pool(1), 2 + fresh);
        due("tables(1)", x.tables(1), 0);
    }

    private static void tablesOfAllBlocks() {
        says("for each sixteen places of which at least one is not empty");
        GuestKeeper x = withGuest(12);
        int[] places = {0, 15, 16, 31, 32, 47, 48, 63};
        int[] tables = {2, 3, 5, 6, 8, 9, 11, 12};
        for (int i = 0; i < 8; i++) {
            due("donate(1, " + i + ", " + places[i] + ")", x.donate(1, i, places[i]), 0);
            due("tables(1)", x.tables(1), tables[i]);
            due("pool(1)", x.pool(1), 12 - tables[i]);
        }
        due("donate(1, 8, 4) with an empty pool", x.donate(1, 8, 4), -4);
        due("donate(1, 8, 1) with an empty pool", x.donate(1, 8, 1), 0);
    }

    private static void addresses() {
        for (int address = 0; address < 256; address++) {
            if (address / 4 != 1) {
                wordOfAnAddress(address);
                faultOfAnAddress(address);
            }
        }
        twoProcessorsAtZero();
    }

    private static void wordOfAnAddress(int address) {
        says("ADDRESS " + address + " is word address mod 4 of the page that place address / 4 holds");
        GuestKeeper x = atFour(0, 0, 11, code(LOAD, 0, 1, address), code(STORE, 2, 1, address), code(TELL, 0, 0, 0));
        fill(x, 2, 100, 101, 102, 103);
        due("takeBack(0)", x.takeBack(0), true);
        due("lend(1, 2, ..)", x.lend(1, 2, address / 4), 0);
        exitDue(x, 3, 0, 2, 100 + address % 4);
        for (int k = 0; k < 4; k++) {
            due("read(2, " + k + ")", x.read(2, k), k == address % 4 ? 11 : 100 + k);
        }
    }

    private static void faultOfAnAddress(int address) {
        says("if that place is empty, touching the address is a FAULT there, " + address);
        GuestKeeper x = atFour(5, 0, 0, code(LOAD, 0, 1, address));
        due("takeBack(0)", x.takeBack(0), true);
        exitDue(x, 9, 0, 1, address);
        due("write(1, 0, STORE)", x.write(1, 0, code(STORE, 0, 1, address)), true);
        exitDue(x, 9, 0, 1, address);
        due("write(1, 0, JUMP)", x.write(1, 0, code(JUMP, 0, 0, address)), true);
        exitDue(x, 9, 0, 1, address);
        processorDue(x, 0, address, 5, 0, 0, 0);
    }

    private static void twoProcessorsAtZero() {
        says("Each guest has two, 0 and 1, with registers r0 .. r3 and PC, all 0 at first");
        GuestKeeper x = withGuest(6);
        for (int v = 0; v < 2; v++) {
            due("load(1, " + v + ")", x.load(1, v), true);
            processorDue(x, 9, 0, 0, 0, 0, 0);
            due("put()", x.put(), true);
        }
        due("load(1, 2)", x.load(1, 2), false);
    }

    /** One step at PC 4 with registers 10, 20, 30, 40, behind which the processor is as due. */
    private static void stepDue(int word, int exit, int info, int pc, int... registers) {
        GuestKeeper x = atFour(10, 20, 30, word);
        exitDue(x, 1, 40, exit, info);
        processorDue(x, 0, pc, registers);
    }

    private static void decoding() {
        everyRegisterIsNamed();
        signOfTheNumber();
        otherFieldsAreOfNoMatter();
    }

    private static void everyRegisterIsNamed() {
        says("op = w & 15, a = w >> 4 & 3, b = w >> 6 & 3");
        for (int a = 0; a < 4; a++) {
            int[] r = {10, 20, 30, 40};
            r[a] = 7;
            stepDue(code(SET, a, 0, 7), 0, 0, 5, r);
            for (int b = 0; b < 4; b++) {
                int[] sum = {10, 20, 30, 40};
                sum[a] += sum[b];
                stepDue(code(ADD, a, b, 0), 0, 0, 5, sum);
                int[] xor = {10, 20, 30, 40};
                xor[a] ^= xor[b];
                stepDue(code(XOR, a, b, 0), 0, 0, 5, xor);
            }
        }
    }

    private static void signOfTheNumber() {
        says("i = w >> 8 (with its sign)");
        int[] numbers = {0, 1, -1, 255, 256, 0x7FFFFF, -0x800000};
        for (int i : numbers) {
            stepDue(code(SET, 2, 0, i), 0, 0, 5, 10, 20, i, 40);
        }
        stepDue(0xFFFFFF01, 0, 0, 5, -1, 20, 30, 40);
        stepDue(0x80000001, 0, 0, 5, -0x800000, 20, 30, 40);
        stepDue(0x7FFFFF01, 0, 0, 5, 0x7FFFFF, 20, 30, 40);
    }

    private static void otherFieldsAreOfNoMatter() {
        says("fields that an instruction does not name are of no matter");
        int[] numbers = {-1, 77};
        for (int i : numbers) {
            stepDue(code(STOP, 3, 3, i), 4, 0, 5, 10, 20, 30, 40);
            stepDue(code(SET, 1, 3, i), 0, 0, 5, 10, i, 30, 40);
            stepDue(code(ADD, 1, 3, i), 0, 0, 5, 10, 60, 30, 40);
            stepDue(code(XOR, 1, 0, i), 0, 0, 5, 10, 20 ^ 10, 30, 40);
            stepDue(code(TELL, 2, 3, i), 2, 30, 5, 10, 20, 30, 40);
            stepDue(code(ASK, 2, 3, i), 3, 0, 5, 10, 20, 0, 40);
            stepDue(code(SHARE, 1, 3, i), 0, 0, 5, 10, 0, 30, 40);
            stepDue(code(UNSHARE, 1, 3, i), 0, 0, 5, 10, 0, 30, 40);
            stepDue(code(JUMP, 1, 3, i), 0, 0, i & 255, 10, 20, 30, 40);
        }
    }

    private static void instructions() {
        sumsWrap();
        xorsOfEdges();
        lowestEightBitsOfTheSum();
        loadIntoItsOwnBase();
        jumpsIfNotZero();
        lowestEightBitsOfTheJump();
        badNumbers();
    }

    private static void sumsWrap() {
        says("Sums wrap");
        int[][] rows = {{MAX, 1, MIN}, {MIN, -1, MAX}, {MIN, MIN, 0}, {MAX, MAX, -2}, {-1, 1, 0}, {0, MIN, MIN}};
        for (int[] row : rows) {
            GuestKeeper x = atFour(row[0], row[1], 0, code(ADD, 0, 1, 0));
            exitDue(x, 1, 0, 0, 0);
            processorDue(x, 0, 5, row[2], row[1], 0, 0);
        }
        GuestKeeper x = atFour(MIN, 0, 0, code(ADD, 0, 0, 0));
        exitDue(x, 1, 0, 0, 0);
        processorDue(x, 0, 5, 0, 0, 0, 0);
    }

    private static void xorsOfEdges() {
        says("10 XOR ra = ra ^ rb");
        int[][] rows = {{-1, MAX, MIN}, {MIN, MIN, 0}, {0, MIN, MIN}, {12, 10, 6}};
        for (int[] row : rows) {
            GuestKeeper x = atFour(row[0], row[1], 0, code(XOR, 0, 1, 0));
            exitDue(x, 1, 0, 0, 0);
            processorDue(x, 0, 5, row[2], row[1], 0, 0);
        }
    }

    private static void lowestEightBitsOfTheSum() {
        says("AT is the lowest eight bits of rb + i");
        int[][] rows = {{0, -1, 255}, {255, 1, 0}, {256, 0, 0}, {-1, 0, 255}, {-256, 9, 9}, {MAX, 0, 255}, {MAX, 1, 0},
            {MIN, 0, 0}, {MIN, -1, 255}, {100, 200, 44}, {8, -8, 0}, {0, 0x7FFFFF, 255}, {0, -0x800000, 0}, {63, 64, 127}};
        for (int[] row : rows) {
            GuestKeeper x = atFour(0, row[0], 66, code(LOAD, 0, 1, row[1]), code(TELL, 0, 0, 0), code(STORE, 2, 1, row[1]));
            due("takeBack(0)", x.takeBack(0), true);
            exitDue(x, 1, 0, 1, row[2]);
            fill(x, 2, 90, 91, 92, 93);
            due("lend(1, 2, ..)", x.lend(1, 2, row[2] / 4), 0);
            exitDue(x, 2, 0, 2, 90 + row[2] % 4);
            exitDue(x, 1, 0, 0, 0);
            due("read(2, ..)", x.read(2, row[2] % 4), 66);
        }
    }

    private static void loadIntoItsOwnBase() {
        says("3 LOAD ra = the word at AT, 4 STORE the word at AT becomes ra");
        GuestKeeper x = atFour(0, 6, 7, code(LOAD, 1, 1, 0), code(STORE, 2, 2, 0), -5, 0);
        exitDue(x, 2, 0, 0, 0);
        due("read(1, 3)", x.read(1, 3), 7);
        due("read(1, 2)", x.read(1, 2), -5);
        processorDue(x, 0, 6, 0, -5, 7, 0);
    }

    private static void jumpsIfNotZero() {
        says("5 JUMP if ra is not 0");
        int[][] rows = {{0, 5}, {1, 80}, {-1, 80}, {256, 80}, {MIN, 80}, {MAX, 80}};
        for (int[] row : rows) {
            GuestKeeper x = atFour(1, row[0], 1, code(JUMP, 1, 0, 80));
            exitDue(x, 1, 1, 0, 0);
            processorDue(x, 0, row[1], 1, row[0], 1, 1);
        }
    }

    private static void lowestEightBitsOfTheJump() {
        says("to the lowest eight bits of i");
        int[][] rows = {{0, 0}, {255, 255}, {256, 0}, {-1, 255}, {-256, 0}, {0x7FFFFF, 255}, {-0x800000, 0}, {257, 1}};
        for (int[] row : rows) {
            stepDue(code(JUMP, 3, 0, row[0]), 0, 0, row[1], 10, 20, 30, 40);
        }
    }

    private static void badNumbers() {
        says("11 .. 15 BAD: it is not done, PC stays, info 0");
        for (int op = 11; op < 16; op++) {
            for (int a = 0; a < 4; a++) {
                stepDue(code(op, a, 3 - a, -7), 5, 0, 4, 10, 20, 30, 40);
            }
        }
        stepDue(-1, 5, 0, 4, 10, 20, 30, 40);
    }

    /** Guest 1 as atFour makes it, and besides its own pages 2 and 3 at places 40 and 63; page 2 shared or not. */
    private static GuestKeeper owning(int r0, boolean shared, int word) {
        GuestKeeper x = atFour(r0, 40, 0, code(shared ? SHARE : UNSHARE, 1, 0, 0), word);
        due("donate(1, 2, 40)", x.donate(1, 2, 40), 0);
        due("donate(1, 3, 63)", x.donate(1, 3, 63), 0);
        exitDue(x, 1, 0, 0, 0);
        due("state(2)", x.state(2), shared ? 1 : 0);
        return x;
    }

    private static void changeDue(int op, int r0, boolean shared, int told, boolean sharedThen) {
        GuestKeeper x = owning(r0, shared, code(op, 0, 0, 0));
        exitDue(x, 1, 0, 0, 0);
        due("state(2)", x.state(2), sharedThen ? 1 : 0);
        due("state(3)", x.state(3), 0);
        due("state(0), lent and mapped", x.state(0), 3);
        due("read(2, 0)", x.read(2, 0), sharedThen ? 0 : NOTHING);
        due("owner(2)", x.owner(2), 1);
        due("tables(1)", x.tables(1), 6);
        due("write(1, 2, TELL)", x.write(1, 2, code(TELL, 0, 0, 0)), true);
        exitDue(x, 1, 0, 2, told);
    }

    private static void sharing() {
        says("6 SHARE: a page that the guest owns and that is not shared, this is shared now and ra = 1");
        changeDue(SHARE, 40, false, 1, true);
        says("6 SHARE: else ra = 0, a page that is shared");
        changeDue(SHARE, 40, true, 0, true);
        says("6 SHARE: else ra = 0, an empty place and a lent page");
        changeDue(SHARE, 41, false, 0, false);
        changeDue(SHARE, 0, false, 0, false);
        says("7 UNSHARE: a page that the guest owns and that is shared, this is shared no more and ra = 1");
        changeDue(UNSHARE, 40, true, 1, false);
        says("7 UNSHARE: else ra = 0, a page that is not shared");
        changeDue(UNSHARE, 40, false, 0, false);
        says("7 UNSHARE: else ra = 0, an empty place, a lent page, another page");
        changeDue(UNSHARE, 41, true, 0, true);
        changeDue(UNSHARE, 0, true, 0, true);
        changeDue(UNSHARE, 63, true, 0, true);
        says("the place with the lowest six bits of ra as its number");
        int[] forties = {40 + 64, 40 - 64, 40 + MIN, MAX - 23, 40 + 256};
        for (int r0 : forties) {
            changeDue(SHARE, r0, false, 1, true);
            changeDue(UNSHARE, r0, true, 1, false);
        }
        lastPlaceIsShared();
        shareAgain();
    }

    private static void lastPlaceIsShared() {
        says("6 SHARE at place 63");
        int[] ends = {63, -1, 127, MAX};
        for (int r0 : ends) {
            GuestKeeper x = owning(r0, false, code(SHARE, 0, 0, 0));
            exitDue(x, 1, 0, 0, 0);
            due("state(3)", x.state(3), 1);
            due("state(2)", x.state(2), 0);
        }
    }

    private static void shareAgain() {
        says("shared no more: SHARE may share it again, and the host maps it anew");
        GuestKeeper x = owning(40, false, code(SHARE, 0, 0, 0));
        exitDue(x, 1, 0, 0, 0);
        int before = x.faults();
        due("write(2, 1, 9)", x.write(2, 1, 9), true);
        fill(x, 1, 0, 0, code(SET, 0, 0, 40), code(UNSHARE, 0, 0, 0));
        exitDue(x, 2, 0, 0, 0);
        due("state(2)", x.state(2), 0);
        due("lend(1, 4, 2)", x.lend(1, 4, 2), 0);
        fill(x, 4, code(SET, 0, 0, 40), code(SHARE, 0, 0, 0), code(TELL, 0, 0, 0));
        exitDue(x, 3, 0, 2, 1);
        due("state(2)", x.state(2), 1);
        due("read(2, 1)", x.read(2, 1), 9);
        due("faults(): pages 2, 4 and 2 again", x.faults(), before + 3);
    }

    /** Guest 1 with processor 0 at PC 255, r0 = 1, the others 0; page 2 at place 63 ends with this word. */
    private static GuestKeeper atLast(int word) {
        GuestKeeper x = atFour(1, 0, 0, code(JUMP, 0, 0, 255));
        fill(x, 2, 0, 0, 0, word);
        due("lend(1, 2, 63)", x.lend(1, 2, 63), 0);
        exitDue(x, 1, 0, 0, 0);
        return x;
    }

    private static void lastDue(int word, int exit, int info, int pc, int... registers) {
        GuestKeeper x = atLast(word);
        exitDue(x, 1, 0, exit, info);
        processorDue(x, 0, pc, registers);
    }

    private static void programCounter() {
        says("Behind a step PC is one more (0 follows 255)");
        lastDue(code(STOP, 0, 0, 0), 4, 0, 0, 1, 0, 0, 0);
        lastDue(code(SET, 3, 0, 6), 0, 0, 0, 1, 0, 0, 6);
        lastDue(code(ADD, 2, 0, 0), 0, 0, 0, 1, 0, 1, 0);
        lastDue(code(LOAD, 2, 1, 254), 0, 0, 0, 1, 0, 0, 0);
        lastDue(code(STORE, 2, 1, 254), 0, 0, 0, 1, 0, 0, 0);
        lastDue(code(JUMP, 1, 0, 9), 0, 0, 0, 1, 0, 0, 0);
        lastDue(code(SHARE, 0, 0, 0), 0, 0, 0, 0, 0, 0, 0);
        lastDue(code(UNSHARE, 0, 0, 0), 0, 0, 0, 0, 0, 0, 0);
        lastDue(code(TELL, 0, 0, 0), 2, 1, 0, 1, 0, 0, 0);
        lastDue(code(ASK, 0, 0, 0), 3, 0, 0, 0, 0, 0, 0);
        lastDue(code(XOR, 1, 0, 0), 0, 0, 0, 1, 1, 0, 0);
        says("but behind a jump that is done the place jumped to");
        lastDue(code(JUMP, 0, 0, 9), 0, 0, 9, 1, 0, 0, 0);
        lastDue(code(JUMP, 0, 0, 255), 0, 0, 255, 1, 0, 0, 0);
        lastDue(code(JUMP, 0, 0, 0), 0, 0, 0, 1, 0, 0, 0);
        says("PC stays, at 255 too");
        lastDue(code(LOAD, 0, 1, 100), 1, 100, 255, 1, 0, 0, 0);
        lastDue(code(STORE, 0, 1, 100), 1, 100, 255, 1, 0, 0, 0);
        lastDue(code(15, 0, 0, 0), 5, 0, 255, 1, 0, 0, 0);
        says("one run goes on from 255 to 0");
        GuestKeeper x = atLast(code(SET, 1, 0, 3));
        due("write(0, 0, TELL r1)", x.write(0, 0, code(TELL, 1, 0, 0)), true);
        exitDue(x, 2, 0, 2, 3);
    }

    private static void exits() {
        faultAtPc();
        faultAtTheAddress();
        tellsAnyInt();
        askWaits();
        stopGoesOn();
        stepsAskedFor();
        exitAtTheLastStep();
        infoOfExitNone();
    }

    private static void faultAtPc() {
        says("1 a FAULT at PC: the info is that address");
        GuestKeeper x = atFour(1, 2, 3, code(SET, 0, 0, 9), code(SET, 0, 0, 9), code(SET, 0, 0, 9), code(SET, 0, 0, 5));
        exitDue(x, 64, 4, 1, 8);
        exitDue(x, 64, 0, 1, 8);
        due("faults() of the host", x.faults(), 2);
        processorDue(x, 0, 8, 5, 2, 3, 4);
    }

    private static void faultAtTheAddress() {
        says("1 a FAULT at AT: the instruction is not done, PC stays");
        GuestKeeper x = atFour(1, 2, 3, code(SET, 0, 0, 9), code(LOAD, 1, 3, 10), code(STORE, 1, 3, 11), 0);
        exitDue(x, 64, 40, 1, 50);
        exitDue(x, 1, 0, 1, 50);
        due("lend(1, 5, 12)", x.lend(1, 5, 12), 0);
        due("write(5, 2, 8)", x.write(5, 2, 8), true);
        exitDue(x, 1, 0, 0, 0);
        due("takeBack(5)", x.takeBack(5), true);
        exitDue(x, 64, 0, 1, 51);
        due("read(5, 3)", x.read(5, 3), 0);
        processorDue(x, 0, 6, 9, 8, 3, 40);
    }

    private static void tellsAnyInt() {
        says("2 behind a TELL, info ra");
        int[] told = {0, 1, -1, MIN, MAX};
        for (int v : told) {
            GuestKeeper x = atFour(1, v, 2, code(TELL, 1, 0, 0));
            exitDue(x, 64, 3, 2, v);
            processorDue(x, 99, 5, 1, v, 2, 3);
        }
    }

    private static void askWaits() {
        says("3 behind an ASK, info 0; ra will be what the host answers");
        int[] answers = {0, -1, MIN, MAX};
        for (int answer : answers) {
            for (int a = 0; a < 4; a++) {
                GuestKeeper x = atFour(10, 20, 30, code(ASK, a, 0, 0));
                exitDue(x, 64, 40, 3, 0);
                int[] r = {10, 20, 30, 40};
                r[a] = answer;
                processorDue(x, answer, 5, r);
            }
        }
    }

    private static void stopGoesOn() {
        says("4 behind a STOP, info 0");
        GuestKeeper x = atFour(1, 2, 3, code(STOP, 0, 0, 0), code(STOP, 1, 0, 0), code(TELL, 1, 0, 0));
        exitDue(x, 64, 4, 4, 0);
        exitDue(x, 64, 0, 4, 0);
        exitDue(x, 64, 0, 2, 2);
        processorDue(x, 0, 7, 1, 2, 3, 4);
    }

    private static void stepsAskedFor() {
        says("0 after as many steps as were asked for");
        for (int n = 1; n <= 64; n++) {
            GuestKeeper x = atFour(1, 0, 0, code(ADD, 1, 0, 0), code(JUMP, 0, 0, 4));
            exitDue(x, n, 0, 0, 0);
            processorDue(x, 0, 4 + n % 2, 1, (n + 1) / 2, 0, 0);
        }
    }

    private static void exitAtTheLastStep() {
        says("0 if none of these came");
        int[][] rows = {{TELL, 2}, {ASK, 3}, {STOP, 4}, {11, 5}};
        for (int[] row : rows) {
            // SET, then 31 times ADD and JUMP: 63 steps, and the exit is the 64th.
            for (int n = 63; n <= 64; n++) {
                GuestKeeper x = atFour(1, -31, 0, code(SET, 2, 0, 0), code(ADD, 1, 0, 0), code(JUMP, 1, 0, 5),
                        code(row[0], 2, 0, 0));
                exitDue(x, n, 0, n == 63 ? 0 : row[1], 0);
            }
            GuestKeeper x = atFour(1, 0, 0, code(row[0], 2, 0, 0));
            exitDue(x, 1, 0, row[1], 0);
        }
        for (int n = 4; n <= 5; n++) {
            GuestKeeper x = atFour(1, 0, 0, code(SET, 2, 0, 1), code(SET, 2, 0, 2), code(SET, 2, 0, 3), code(SET, 2, 0, 4));
            exitDue(x, n, 0, n == 4 ? 0 : 1, n == 4 ? 0 : 8);
        }
    }

    private static void infoOfExitNone() {
        says("info 0, also behind an exit that had one");
        int[][] rows = {{SET, 0}, {ASK, 3}, {STOP, 4}, {12, 5}};
        for (int[] row : rows) {
            GuestKeeper x = atFour(1, 2, 3, code(TELL, 1, 0, 0), code(row[0], 0, 0, 0));
            exitDue(x, 1, 0, 2, 2);
            exitDue(x, 1, 0, row[1], 0);
        }
    }

    private static void hostRegisters() {
        says("The host has four registers of its own, 0 at first");
        GuestKeeper x = withGuest(0);
        for (int k = 0; k < 4; k++) {
            due("register(" + k + ")", x.register(k), 0);
            due("set(" + k + ", ..)", x.set(k, MIN + k), true);
        }
        for (int k = 0; k < 4; k++) {
            due("register(" + k + ")", x.register(k), MIN + k);
        }
        says("At most one processor is LOADED at a time");
        due("load(1, 1)", x.load(1, 1), true);
        due("load(1, 0)", x.load(1, 0), false);
        due("load(1, 1)", x.load(1, 1), false);
        says("while one is, the host finds 0 in all its registers, and cannot set them");
        for (int k = 0; k < 4; k++) {
            due("register(" + k + ")", x.register(k), 0);
            due("set(" + k + ", 5)", x.set(k, 5), false);
            due("register(" + k + ")", x.register(k), 0);
        }
        due("put()", x.put(), true);
        for (int k = 0; k < 4; k++) {
            due("register(" + k + ")", x.register(k), MIN + k);
        }
    }
}
