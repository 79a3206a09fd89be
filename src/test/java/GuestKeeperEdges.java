/** A test of its own for each sentence of the promises 1 to 21 that names a boundary. */
public final class GuestKeeperEdges extends Check {
    private GuestKeeperEdges() {
    }

    public static void main(String[] args) {
        newObject();
        touching();
        creating();
        feeding();
        placing();
        donating();
        lending();
        takingBack();
        destroying();
        reclaiming();
        loading();
        putting();
        running();
        answering();
        infos();
        hostRegisters();
        looking();
        usedToTheEnd();
        end();
    }

    private static void newObject() {
        says("1: No guests, nothing loaded");
        GuestKeeper x = new GuestKeeper();
        for (int g = 1; g <= 6; g++) {
            due("pool(" + g + ")", x.pool(g), -1);
            due("tables(" + g + ")", x.tables(g), -1);
            due("load(" + g + ", 0)", x.load(g, 0), false);
        }
        due("put()", x.put(), false);
        due("run(1, 0)", x.run(1, 0), -1);
        due("set(0, 1)", x.set(0, 1), true);
        says("1: an object has nothing of another");
        GuestKeeper y = new GuestKeeper();
        due("register(0)", y.register(0), 0);
        due("create(0)", x.create(0), 1);
        due("owner(0)", y.owner(0), 0);
        due("create(0)", y.create(0), 1);
    }

    private static void touching() {
        says("2: NOTHING is 1L << 40");
        due("NOTHING", GuestKeeper.NOTHING, NOTHING);
        touchingNoPage();
        touchingNoWord();
        touchingInVain();
        writingOneWord();
        countingFaults();
    }

    private static void touchingNoPage() {
        says("2 and 3: p is no page (then nothing is touched)");
        GuestKeeper x = withAllKinds();
        int before = x.faults();
        for (int p : NO_PAGES) {
            due("read(" + p + ", 0)", x.read(p, 0), NOTHING);
            due("write(" + p + ", 0, 1)", x.write(p, 0, 1), false);
            due("read(" + p + ", 4)", x.read(p, 4), NOTHING);
            due("write(" + p + ", -1, 1)", x.write(p, -1, 1), false);
        }
        due("faults()", x.faults(), before);
    }

    private static void touchingNoWord() {
        says("2 and 3: k is not 0 .. 3 (then nothing is touched)");
        GuestKeeper x = withAllKinds();
        int before = x.faults();
        int[] kinds = {0, 1, 2, 3, 7, 13};
        for (int p : kinds) {
            int state = x.state(p);
            for (int k : NOT_0_TO_3) {
                due("read(" + p + ", " + k + ")", x.read(p, k), NOTHING);
                due("write(" + p + ", " + k + ", 1)", x.write(p, k, 1), false);
            }
            due("state(" + p + ")", x.state(p), state);
        }
        due("faults()", x.faults(), before);
    }

    private static void touchingInVain() {
        says("2 and 3: it may not touch the page; each touch that gets nothing of a page is a host fault");
        int[] kinds = {0, 3, 4, 6, 7, 8, 9};
        for (int p : kinds) {
            GuestKeeper x = withAllKinds();
            int before = x.faults();
            for (int i = 0; i < 3; i++) {
                due("read(" + p + ", " + i + ")", x.read(p, i), NOTHING);
                due("faults()", x.faults(), before + 2 * i + 1);
                due("write(" + p + ", " + i + ", 1)", x.write(p, i, 1), false);
                due("faults()", x.faults(), before + 2 * i + 2);
            }
            due("state(" + p + ")", x.state(p), 0);
        }
    }

    private static void writingOneWord() {
        says("3: word k of page p, which becomes v");
        GuestKeeper x = new GuestKeeper();
        fill(x, 7, 1, 2, 3, 4);
        due("write(7, 3, MIN)", x.write(7, 3, MIN), true);
        due("write(7, 0, 0)", x.write(7, 0, 0), true);
        wordsDue(x, 7, 0, 2, 3, MIN);
        wordsDue(x, 6, 0, 0, 0, 0);
        wordsDue(x, 8, 0, 0, 0, 0);
    }

    private static void countingFaults() {
        says("4: How many host faults there were");
        GuestKeeper x = withAllKinds();
        due("faults(), page 0", x.faults(), 1);
        due("faults(), asked twice", x.faults(), 1);
        due("read(2, 0), lent", x.read(2, 0), 0);
        due("faults()", x.faults(), 2);
        due("takeBack(2)", x.takeBack(2), true);
        due("write(2, 0, 1)", x.write(2, 0, 1), true);
        due("faults()", x.faults(), 2);
        due("read(1, 0), shared", x.read(1, 0), 0);
        due("faults()", x.faults(), 3);
        due("read(7, 0), an orphan", x.read(7, 0), NOTHING);
        due("faults()", x.faults(), 4);
        due("reclaim(7)", x.reclaim(7), true);
        due("read(7, 0), reclaimed", x.read(7, 0), 0);
        due("faults()", x.faults(), 5);
        due("load(1, 1)", x.load(1, 1), true);
        due("run(1, 0)", x.run(1, 0), 0);
        due("faults()", x.faults(), 5);
    }

    private static void creating() {
        says("5: all places empty, pool empty, no tables");
        GuestKeeper x = withAllKinds();
        due("create(13)", x.create(13), 3);
        due("pool(3)", x.pool(3), 0);
        due("tables(3)", x.tables(3), 0);
        due("lend(3, 14, 0): the pool is its own", x.lend(3, 14, 0), -4);
        due("load(3, 0)", x.load(3, 0), true);
        exitDue(x, 64, 0, 1, 0);
        says("5: whose root is page p");
        due("owner(13)", x.owner(13), 7);
        due("create(13)", x.create(13), -1);
        says("5: -1 if p is no free page of the host");
        for (int p : NO_PAGES) {
            due("create(" + p + ")", x.create(p), -1);
        }
        for (int p = 0; p < 10; p++) {
            due("create(" + p + ")", x.create(p), -1);
        }
        due("create(23): the number follows", x.create(23), 4);
        createdSix();
    }

    private static void createdSix() {
        says("5: -2 if 6 guests were made");
        GuestKeeper x = new GuestKeeper();
        for (int g = 1; g <= 6; g++) {
            due("create(" + g + ")", x.create(g), g);
        }
        due("create(7)", x.create(7), -2);
        due("owner(7)", x.owner(7), 0);
        due("destroy(3)", x.destroy(3), true);
        due("create(7): a dead one was made too", x.create(7), -2);
        says("5: -1 before -2");
        due("create(1)", x.create(1), -1);
        due("create(3)", x.create(3), -1);
        due("create(24)", x.create(24), -1);
        due("create(-1)", x.create(-1), -1);
    }

    private static void feeding() {
        says("6: how many pages are in the pool then");
        GuestKeeper x = withGuest(0);
        for (int p = 0; p < 23; p++) {
            due("feed(1, " + p + ")", x.feed(1, p), p + 1);
        }
        due("pool(1)", x.pool(1), 23);
        due("feed(1, 0): the host has none", x.feed(1, 0), -2);
        says("6: in the pool, tables not counted");
        GuestKeeper y = withAllKinds();
        due("feed(1, 23)", y.feed(1, 23), 2);
        says("6: -1 if g is no living guest");
        int[] none = {0, -1, 2, 3, 6, 7, 8, MIN, MAX};
        for (int g : none) {
            due("feed(" + g + ", 13)", y.feed(g, 13), -1);
        }
        due("owner(13)", y.owner(13), 0);
        says("6: -1 before -2");
        for (int g : none) {
            due("feed(" + g + ", 24)", y.feed(g, 24), -1);
        }
        says("6: -2 if p is no free page of the host");
        for (int p : NO_PAGES) {
            due("feed(1, " + p + ")", y.feed(1, p), -2);
        }
        for (int p = 0; p < 10; p++) {
            due("feed(1, " + p + ")", y.feed(1, p), -2);
        }
        due("pool(1)", y.pool(1), 2);
    }

    private static int place(GuestKeeper x, boolean lends, int g, int p, int place) {
        return lends ? x.lend(g, p, place) : x.donate(g, p, place);
    }

    private static void placing() {
        for (int way = 0; way < 2; way++) {
            String number = way == 0 ? "7" : "8";
            placingForNobody(number, way == 1);
            placingNoFreePage(number, way == 1);
            placingNowhere(number, way == 1);
            placingWithoutTables(number, way == 1);
            placingRefusedForMore(number, way == 1);
        }
    }

    private static void placingForNobody(String number, boolean lends) {
        says(number + ": -1 if g is no living guest");
        GuestKeeper x = withAllKinds();
        int[] none = {0, -1, 2, 3, 6, 7, 8, MIN, MAX};
        for (int g : none) {
            due("(" + g + ", 13, 3)", place(x, lends, g, 13, 3), -1);
        }
        due("owner(13)", x.owner(13), 0);
        due("state(13)", x.state(13), 0);
    }

    private static void placingNoFreePage(String number, boolean lends) {
        says(number + ": -2 if p is no free page of the host");
        GuestKeeper x = withAllKinds();
        for (int p : NO_PAGES) {
            due("(1, " + p + ", 3)", place(x, lends, 1, p, 3), -2);
        }
        for (int p = 0; p < 10; p++) {
            due("(1, " + p + ", 3)", place(x, lends, 1, p, 3), -2);
        }
    }

    private static void placingNowhere(String number, boolean lends) {
        says(number + ": -3 if place is not 0 .. 63 or not empty");
        GuestKeeper x = withAllKinds();
        for (int place : NO_PLACES) {
            due("(1, 13, " + place + ")", place(x, lends, 1, 13, place), -3);
        }
        for (int place = 0; place < 3; place++) {
            due("(1, 13, " + place + ")", place(x, lends, 1, 13, place), -3);
        }
        due("(1, 13, 3): empty since takeBack", place(x, lends, 1, 13, 3), 0);
        due("takeBack(2)", x.takeBack(2), true);
        due("(1, 2, 2): empty since takeBack", place(x, lends, 1, 2, 2), 0);
        says(number + ": the places 0 and 63 are places");
        due("(1, 0, 0)", place(withGuest(2), lends, 1, 0, 0), 0);
        due("(1, 0, 63)", place(withGuest(2), lends, 1, 0, 63), 0);
    }

    private static void placingWithoutTables(String number, boolean lends) {
        says(number + ": -4 if the pool has too few pages for the new tables");
        GuestKeeper x = withAllKinds();
        due("(1, 13, 16) wants two of one", place(x, lends, 1, 13, 16), -4);
        due("(1, 13, 63) wants two of one", place(x, lends, 1, 13, 63), -4);
        due("pool(1)", x.pool(1), 1);
        due("tables(1)", x.tables(1), 2);
        due("(1, 13, 15) wants one of one", place(x, lends, 1, 13, 15), 0);
        due("pool(1)", x.pool(1), 0);
        due("(1, 14, 8) wants one of none", place(x, lends, 1, 14, 8), -4);
        due("(1, 14, 12) wants none", place(x, lends, 1, 14, 12), 0);
        due("(1, 15, 3) wants none", place(x, lends, 1, 15, 3), 0);
        due("tables(1)", x.tables(1), 3);
    }

    private static void placingRefusedForMore(String number, boolean lends) {
        GuestKeeper x = withAllKinds();
        says(number + ": -1 before -2, -3 and -4");
        due("(2, 24, 64)", place(x, lends, 2, 24, 64), -1);
        due("(0, 0, 3)", place(x, lends, 0, 0, 3), -1);
        due("(3, 13, -1)", place(x, lends, 3, 13, -1), -1);
        due("(7, 13, 40)", place(x, lends, 7, 13, 40), -1);
        says(number + ": -2 before -3 and -4");
        due("(1, 24, 64)", place(x, lends, 1, 24, 64), -2);
        due("(1, 2, 0)", place(x, lends, 1, 2, 0), -2);
        due("(1, 7, 40)", place(x, lends, 1, 7, 40), -2);
        says(number + ": -3 before -4");
        due("(1, 13, 64)", place(x, lends, 1, 13, 64), -3);
        due("(1, 13, 80)", place(x, lends, 1, 13, 80), -3);
        due("(1, 13, -1)", place(x, lends, 1, 13, -1), -3);
        due("owner(13)", x.owner(13), 0);
        due("state(13)", x.state(13), 0);
    }

    private static void donating() {
        says("7: who owns it then");
        GuestKeeper x = withAllKinds();
        due("donate(1, 13, 3)", x.donate(1, 13, 3), 0);
        due("owner(13)", x.owner(13), 1);
        due("state(13)", x.state(13), 0);
        due("takeBack(13)", x.takeBack(13), false);
        says("7: else its words stay");
        wordsOfDonatedDue(false, false, 0);
        says("7: wiped if a processor of the guest was ever loaded, processor 0 or 1");
        wordsOfDonatedDue(true, false, 0);
        wordsOfDonatedDue(true, false, 1);
        says("7: wiped while a processor is loaded");
        wordsOfDonatedDue(true, true, 0);
        wordsOfDonatedDue(true, true, 1);
        loadsThatDoNotCount();
    }

    /** All four words of a page that is donated to a guest that was loaded, or was not. */
    private static void wordsOfDonatedDue(boolean loadedOnce, boolean loadedStill, int v) {
        GuestKeeper x = withGuest(4);
        int tell = code(TELL, 0, 0, 0);
        fill(x, 0, tell, tell, tell, tell);
        if (loadedOnce) {
            due("load(1, " + v + ")", x.load(1, v), true);
        }
        if (loadedOnce && !loadedStill) {
            due("put()", x.put(), true);
        }
        due("donate(1, 0, 0)", x.donate(1, 0, 0), 0);
        if (!loadedStill) {
            due("load(1, 0)", x.load(1, 0), true);
        }
        for (int k = 0; k < 4; k++) {
            exitDue(x, 1, 0, loadedOnce ? 4 : 2, 0);
        }
        exitDue(x, 1, 0, 1, 4);
    }

    private static void loadsThatDoNotCount() {
        says("7: a load that was refused, or another guest's, is no load of this guest");
        GuestKeeper x = withGuest(2);
        due("create(10)", x.create(10), 2);
        due("load(2, 2)", x.load(2, 2), false);
        due("load(1, 0)", x.load(1, 0), true);
        due("load(2, 0)", x.load(2, 0), false);
        due("put()", x.put(), true);
        due("feed(2, 11)", x.feed(2, 11), 1);
        due("feed(2, 12)", x.feed(2, 12), 2);
        fill(x, 0, code(TELL, 0, 0, 0));
        due("donate(2, 0, 0)", x.donate(2, 0, 0), 0);
        due("load(2, 0)", x.load(2, 0), true);
        exitDue(x, 1, 0, 2, 0);
        says("7: wiped before it is the guest's, not when it is loaded later");
        due("put()", x.put(), true);
        due("load(2, 1)", x.load(2, 1), true);
        exitDue(x, 1, 0, 2, 0);
    }

    private static void lending() {
        says("8: its words stay, the host owns it still");
        for (int loads = 0; loads < 2; loads++) {
            GuestKeeper x = withGuest(2);
            due("load(1, 0)", loads == 1 && x.load(1, 0), loads == 1);
            fill(x, 0, 1, 2, 3, 4);
            due("lend(1, 0, 5)", x.lend(1, 0, 5), 0);
            due("owner(0)", x.owner(0), 0);
            due("state(0)", x.state(0), 3);
            wordsDue(x, 0, 1, 2, 3, 4);
            due("write(0, 0, 9)", x.write(0, 0, 9), true);
            due("faults()", x.faults(), 1);
        }
        says("8: lent to one guest");
        GuestKeeper x = withAllKinds();
        due("create(13)", x.create(13), 3);
        due("feed(3, 14)", x.feed(3, 14), 1);
        due("feed(3, 15)", x.feed(3, 15), 2);
        due("lend(3, 2, 0)", x.lend(3, 2, 0), -2);
        due("takeBack(2)", x.takeBack(2), true);
        due("lend(3, 2, 0)", x.lend(3, 2, 0), 0);
        due("pool(3)", x.pool(3), 0);
        due("tables(1)", x.tables(1), 2);
    }

    private static void takingBack() {
        says("9: lent no more; its place becomes empty");
        GuestKeeper x = withAllKinds();
        due("takeBack(2)", x.takeBack(2), true);
        due("state(2)", x.state(2), 0);
        due("owner(2)", x.owner(2), 0);
        due("takeBack(2) again", x.takeBack(2), false);
        due("lend(1, 13, 2)", x.lend(1, 13, 2), 0);
        due("donate(1, 2, 3)", x.donate(1, 2, 3), 0);
        says("9: False if p is no page");
        for (int p : NO_PAGES) {
            due("takeBack(" + p + ")", x.takeBack(p), false);
        }
        says("9: False if p is one that is not lent");
        GuestKeeper y = withAllKinds();
        for (int p = 0; p < 24; p++) {
            due("takeBack(" + p + ")", y.takeBack(p), p == 2);
        }
        due("state(1), shared still", y.state(1), 1);
        takingBackFromTheRightGuest();
        takingBackWhateverTheGuestDoes();
    }

    private static void takingBackFromTheRightGuest() {
        says("9: its place becomes empty, no other");
        GuestKeeper x = withGuest(2);
        due("create(10)", x.create(10), 2);
        due("feed(2, 11)", x.feed(2, 11), 1);
        due("feed(2, 12)", x.feed(2, 12), 2);
        due("lend(1, 0, 7)", x.lend(1, 0, 7), 0);
        due("lend(1, 1, 6)", x.lend(1, 1, 6), 0);
        due("lend(2, 2, 7)", x.lend(2, 2, 7), 0);
        due("takeBack(0)", x.takeBack(0), true);
        due("state(1)", x.state(1), 1);
        due("state(2)", x.state(2), 1);
        due("tables(1)", x.tables(1), 2);
        due("tables(2)", x.tables(2), 2);
        due("lend(1, 3, 6)", x.lend(1, 3, 6), -3);
        due("lend(2, 3, 7)", x.lend(2, 3, 7), -3);
        due("lend(1, 3, 7)", x.lend(1, 3, 7), 0);
    }

    private static void takingBackWhateverTheGuestDoes() {
        says("9: Whatever the guest is doing");
        GuestKeeper x = atFour(1, 2, 3, code(ASK, 0, 0, 0), code(TELL, 0, 0, 0));
        exitDue(x, 9, 4, 3, 0);
        due("takeBack(1) where it waits", x.takeBack(1), true);
        exitDue(x, 9, 50, 1, 5);
        wordsDue(x, 1, code(ASK, 0, 0, 0), code(TELL, 0, 0, 0), 0, 0);
        due("lend(1, 1, 1)", x.lend(1, 1, 1), 0);
        exitDue(x, 9, 60, 2, 50);
        due("put()", x.put(), true);
        due("takeBack(0) while none is loaded", x.takeBack(0), true);
        says("9: what the guest has stored stays");
        GuestKeeper y = atFour(1, 2, 3, code(STORE, 2, 1, 5), code(STOP, 0, 0, 0));
        exitDue(y, 9, 4, 4, 0);
        due("takeBack(1)", y.takeBack(1), true);
        wordsDue(y, 1, code(STORE, 2, 1, 5), code(STOP, 0, 0, 0), 0, 3);
    }

    private static void destroying() {
        says("10: pages that it owns, its root, its tables and its pool become orphans (not shared)");
        GuestKeeper x = withAllKinds();
        due("read(1, 0)", x.read(1, 0), 0);
        due("destroy(1)", x.destroy(1), true);
        for (int p = 0; p < 24; p++) {
            boolean orphan = p != 2 && p < 10;
            due("owner(" + p + ")", x.owner(p), orphan ? 8 : 0);
            due("state(" + p + ")", x.state(p), 0);
            due("read(" + p + ", 0)", x.read(p, 0), orphan ? NOTHING : 0);
        }
        says("10: pages lent to it are lent no more");
        due("takeBack(2)", x.takeBack(2), false);
        due("create(2)", x.create(2), 3);
        says("10: False if g is no living guest");
        int[] none = {0, -1, 1, 2, 4, 6, 7, 8, MIN, MAX};
        for (int g : none) {
            due("destroy(" + g + ")", x.destroy(g), false);
        }
        destroyingLeavesWhatIsLent();
        destroyingALoadedGuest();
        destroyingOneOfTwo();
    }

    private static void destroyingLeavesWhatIsLent() {
        says("10: what was lent is the host's as before, its words too");
        GuestKeeper x = withGuest(2);
        fill(x, 0, 1, 2, 3, 4);
        due("lend(1, 0, 0)", x.lend(1, 0, 0), 0);
        due("destroy(1)", x.destroy(1), true);
        due("owner(0)", x.owner(0), 0);
        due("state(0)", x.state(0), 2);
        wordsDue(x, 0, 1, 2, 3, 4);
    }

    private static void destroyingALoadedGuest() {
        says("10: False if one of its processors is loaded");
        for (int v = 0; v < 2; v++) {
            GuestKeeper x = withAllKinds();
            due("load(1, " + v + ")", x.load(1, v), true);
            due("destroy(1)", x.destroy(1), false);
            due("owner(0)", x.owner(0), 1);
            due("owner(3)", x.owner(3), 7);
            due("state(1)", x.state(1), 1);
            due("state(2)", x.state(2), 1);
            due("pool(1)", x.pool(1), 1);
            due("put()", x.put(), true);
            due("destroy(1)", x.destroy(1), true);
        }
    }

    private static void destroyingOneOfTwo() {
        says("10: another guest keeps what it has, loaded or not");
        GuestKeeper x = withAllKinds();
        due("create(13)", x.create(13), 3);
        due("feed(3, 14)", x.feed(3, 14), 1);
        due("load(1, 0)", x.load(1, 0), true);
        due("destroy(3)", x.destroy(3), true);
        int[] owners = {1, 1, 0, 7, 7, 7, 7, 8, 8, 8, 0, 0, 0, 8, 8, 0};
        for (int p = 0; p < owners.length; p++) {
            due("owner(" + p + ")", x.owner(p), owners[p]);
        }
        due("state(1)", x.state(1), 1);
        due("state(2)", x.state(2), 1);
        due("pool(1)", x.pool(1), 1);
        due("tables(1)", x.tables(1), 2);
        due("put()", x.put(), true);
    }

    private static void reclaiming() {
        says("11: Page p, an orphan, is wiped, and owned by the host");
        GuestKeeper x = withAllKinds();
        due("destroy(1)", x.destroy(1), true);
        due("reclaim(0)", x.reclaim(0), true);
        due("owner(0)", x.owner(0), 0);
        wordsDue(x, 0, 0, 0, 0, 0);
        due("state(0)", x.state(0), 2);
        due("create(0)", x.create(0), 3);
        says("11: False if p is no page");
        for (int p : NO_PAGES) {
            due("reclaim(" + p + ")", x.reclaim(p), false);
        }
        says("11: False if p is no orphan");
        GuestKeeper y = withAllKinds();
        for (int p = 0; p < 24; p++) {
            due("reclaim(" + p + ")", y.reclaim(p), p >= 7 && p <= 9);
            due("reclaim(" + p + ") again", y.reclaim(p), false);
        }
        says("11: a refused reclaim wipes nothing");
        fill(y, 13, 1, 2, 3, 4);
        due("reclaim(13)", y.reclaim(13), false);
        wordsDue(y, 13, 1, 2, 3, 4);
    }

    private static void loading() {
        GuestKeeper x = withAllKinds();
        due("create(13)", x.create(13), 3);
        says("12: False if g is no living guest");
        int[] none = {0, -1, 2, 4, 6, 7, MIN, MAX};
        for (int g : none) {
            due("load(" + g + ", 0)", x.load(g, 0), false);
        }
        says("12: False if v is not 0 or 1");
        for (int v : NO_PROCESSORS) {
            due("load(1, " + v + ")", x.load(1, v), false);
        }
        due("put(): none was loaded", x.put(), false);
        says("12: False if a processor is loaded");
        for (int v = 0; v < 2; v++) {
            due("load(3, " + v + ")", x.load(3, v), true);
            for (int other = 0; other < 2; other++) {
                due("load(3, " + other + ")", x.load(3, other), false);
                due("load(1, " + other + ")", x.load(1, other), false);
            }
            due("load(9, 9)", x.load(9, 9), false);
            exitDue(x, 1, 0, 1, 0);
            due("put()", x.put(), true);
        }
    }

    private static void putting() {
        says("13: False if none is loaded");
        GuestKeeper x = withAllKinds();
        due("put()", x.put(), false);
        due("load(1, 0)", x.load(1, 0), true);
        due("put()", x.put(), true);
        due("put()", x.put(), false);
        says("13: it keeps its registers and PC");
        GuestKeeper y = atFour(MIN, MAX, -1, code(SET, 0, 0, 6), code(STOP, 0, 0, 0));
        exitDue(y, 1, 40, 0, 0);
        due("put()", y.put(), true);
        due("load(1, 1)", y.load(1, 1), true);
        exitDue(y, 1, 0, 3, 0);
        due("put()", y.put(), true);
        due("load(1, 0)", y.load(1, 0), true);
        processorDue(y, 77, 5, 6, MAX, -1, 40);
        due("put()", y.put(), true);
        due("load(1, 1)", y.load(1, 1), true);
        processorDue(y, 88, 1, 88, 0, 0, 0);
    }

    private static void running() {
        says("14: -1 if none is loaded");
        GuestKeeper x = atFour(1, 0, 0, code(ADD, 1, 0, 0), code(JUMP, 0, 0, 4));
        due("put()", x.put(), true);
        due("run(1, 0)", x.run(1, 0), -1);
        due("run(64, 0)", x.run(64, 0), -1);
        due("run(0, 0)", x.run(0, 0), -1);
        says("14: -1 if n is not 1 .. 64");
        due("load(1, 0)", x.load(1, 0), true);
        int[] refused = {0, -1, 65, 66, MIN, MAX};
        for (int n : refused) {
            due("run(" + n + ", 9)", x.run(n, 9), -1);
        }
        says("14: at most n steps, 1 and 64 of them");
        exitDue(x, 64, 0, 0, 0);
        exitDue(x, 1, 0, 0, 0);
        processorDue(x, 0, 5, 1, 33, 0, 0);
    }

    private static void answering() {
        answerIsTaken();
        answerWaits();
        answerIsOfNoMatter();
        answerOfTheOther();
        answerIsFirst();
    }

    private static void answerIsTaken() {
        says("14: ra of that instruction first becomes answer, before the step at PC");
        GuestKeeper x = atFour(0, 0, 0, code(ASK, 2, 0, 0), code(TELL, 2, 0, 0), code(TELL, 2, 0, 0));
        exitDue(x, 2, 0, 3, 0);
        exitDue(x, 1, MAX, 2, MAX);
        exitDue(x, 1, 5, 2, MAX);
        says("14: an ASK behind an ASK");
        GuestKeeper y = atFour(0, 0, 0, code(ASK, 1, 0, 0), code(ASK, 1, 0, 0), code(ASK, 2, 0, 0));
        exitDue(y, 64, 0, 3, 0);
        exitDue(y, 64, 6, 3, 0);
        exitDue(y, 64, 7, 3, 0);
        processorDue(y, 8, 7, 0, 7, 8, 0);
    }

    private static void answerWaits() {
        says("14: Also if it was put away and loaded again since");
        GuestKeeper x = atFour(1, 2, 3, code(ASK, 1, 0, 0), code(TELL, 1, 0, 0));
        exitDue(x, 64, 4, 3, 0);
        due("put()", x.put(), true);
        due("run(1, 11): none is loaded", x.run(1, 11), -1);
        due("create(5)", x.create(5), 2);
        due("load(2, 0)", x.load(2, 0), true);
        exitDue(x, 1, 12, 1, 0);
        due("put()", x.put(), true);
        due("load(1, 0)", x.load(1, 0), true);
        due("run(0, 13): refused", x.run(0, 13), -1);
        due("run(65, 14): refused", x.run(65, 14), -1);
        exitDue(x, 64, 15, 2, 15);
    }

    private static void answerIsOfNoMatter() {
        says("14: else answer is of no matter");
        int[][] rows = {{SET, 0}, {TELL, 2}, {STOP, 4}, {13, 5}};
        for (int[] row : rows) {
            GuestKeeper x = atFour(0, 0, 0, code(row[0], 0, 0, 0), code(TELL, 0, 0, 0));
            exitDue(x, 1, 0, row[1], 0);
            processorDue(x, 99, row[0] == 13 ? 4 : 5, 0, 0, 0, 0);
        }
        GuestKeeper y = withGuest(6);
        due("load(1, 0)", y.load(1, 0), true);
        processorDue(y, 99, 0, 0, 0, 0, 0);
    }

    private static void answerOfTheOther() {
        says("14: its latest run: each processor has its own");
        GuestKeeper x = withGuest(6);
        fill(x, 0, code(ASK, 0, 0, 0), code(ASK, 1, 0, 0), 0, 0);
        due("lend(1, 0, 0)", x.lend(1, 0, 0), 0);
        due("load(1, 0)", x.load(1, 0), true);
        exitDue(x, 1, 5, 3, 0);
        due("put()", x.put(), true);
        due("load(1, 1)", x.load(1, 1), true);
        exitDue(x, 1, 6, 3, 0);
        exitDue(x, 1, 7, 3, 0);
        due("put()", x.put(), true);
        due("load(1, 0)", x.load(1, 0), true);
        processorDue(x, 8, 1, 8, 0, 0, 0);
        due("put()", x.put(), true);
        due("load(1, 1)", x.load(1, 1), true);
        processorDue(x, 9, 2, 7, 9, 0, 0);
    }

    private static void answerIsFirst() {
        says("14: the answer is the register's also if the run then ends at once");
        GuestKeeper x = atFour(0, 0, 0, code(ASK, 3, 0, 0), code(LOAD, 0, 3, 0), code(14, 0, 0, 0));
        exitDue(x, 64, 0, 3, 0);
        exitDue(x, 64, 200, 1, 200);
        exitDue(x, 64, 100, 1, 200);
        due("write(1, 1, BAD)", x.write(1, 1, 15), true);
        exitDue(x, 64, 100, 5, 0);
        processorDue(x, 100, 5, 0, 0, 0, 200);
        says("14: ra of that instruction, though the word is another now");
        GuestKeeper y = atFour(0, 0, 0, code(ASK, 3, 0, 0), code(STOP, 0, 0, 0));
        exitDue(y, 64, 0, 3, 0);
        due("write(1, 0, ASK r1)", y.write(1, 0, code(ASK, 1, 0, 0)), true);
        processorDue(y, 30, 5, 0, 0, 0, 30);
    }

    private static void infos() {
        says("15: 0 if there was none");
        GuestKeeper x = atFour(1, 2, 3, code(TELL, 1, 0, 0), code(LOAD, 0, 0, 98), code(SET, 0, 0, 0));
        due("info() of a new object", new GuestKeeper().info(), 0);
        says("15: The info of the latest exit");
        exitDue(x, 1, 0, 2, 2);
        due("info() again", x.info(), 2);
        due("run(0, 0)", x.run(0, 0), -1);
        due("info() after a refused run", x.info(), 2);
        due("put()", x.put(), true);
        due("run(1, 0)", x.run(1, 0), -1);
        due("info() while none is loaded", x.info(), 2);
        due("create(5)", x.create(5), 2);
        due("load(2, 1)", x.load(2, 1), true);
        due("info() while another is loaded", x.info(), 2);
        exitDue(x, 1, 0, 1, 0);
        due("put()", x.put(), true);
        due("load(1, 0)", x.load(1, 0), true);
        due("info(): the other's was the latest", x.info(), 0);
        exitDue(x, 1, 0, 1, 99);
        due("put()", x.put(), true);
        due("destroy(1)", x.destroy(1), true);
        due("info() of a dead guest's exit", x.info(), 99);
    }

    private static void hostRegisters() {
        GuestKeeper x = atFour(91, 92, 93, code(STOP, 0, 0, 0));
        exitDue(x, 1, 94, 4, 0);
        says("16: False if a processor is loaded");
        due("set(0, 1)", x.set(0, 1), false);
        due("set(3, 1)", x.set(3, 1), false);
        says("17: the host finds 0 while a processor is loaded");
        for (int k = 0; k < 4; k++) {
            due("register(" + k + ")", x.register(k), 0);
        }
        due("put()", x.put(), true);
        says("17: the host finds nothing of the guest's registers");
        for (int k = 0; k < 4; k++) {
            due("register(" + k + ")", x.register(k), 0);
        }
        says("16: Register k of the host becomes v");
        int[] values = {MIN, MAX, -1, 5};
        for (int k = 0; k < 4; k++) {
            due("set(" + k + ", " + values[k] + ")", x.set(k, values[k]), true);
        }
        says("16: False if k is not 0 .. 3");
        for (int k : NOT_0_TO_3) {
            due("set(" + k + ", 6)", x.set(k, 6), false);
        }
        says("17: 0 if k is not 0 .. 3");
        for (int k : NOT_0_TO_3) {
            due("register(" + k + ")", x.register(k), 0);
        }
        says("17: What the host finds in its register k");
        for (int k = 0; k < 4; k++) {
            due("register(" + k + ")", x.register(k), values[k]);
        }
        says("17: behind a load the host's registers are as they were, the guest's too");
        due("load(1, 0)", x.load(1, 0), true);
        processorDue(x, 0, 5, 91, 92, 93, 94);
        due("put()", x.put(), true);
        for (int k = 0; k < 4; k++) {
            due("register(" + k + ")", x.register(k), values[k]);
        }
    }

    private static void looking() {
        GuestKeeper x = withAllKinds();
        says("18: 0 the host, 1 .. 6 a guest, 7 the keeper, 8 nobody");
        int[] owners = {1, 1, 0, 7, 7, 7, 7, 8, 8, 8, 0, 0, 0, 0, 0, 0, 0, 0, 0, 0, 0, 0, 0, 0};
        for (int p = 0; p < 24; p++) {
            due("owner(" + p + ")", x.owner(p), owners[p]);
        }
        sixthGuestOwns();
        says("18 and 19: -1 if p is no page");
        for (int p : NO_PAGES) {
            due("owner(" + p + ")", x.owner(p), -1);
            due("state(" + p + ")", x.state(p), -1);
        }
        says("19: 1 if page p is lent or shared, + 2 if it is mapped for the host");
        for (int p = 0; p < 24; p++) {
            int open = p == 1 || p == 2 ? 1 : 0;
            due("state(" + p + ")", x.state(p), open);
            x.read(p, 0);
            due("state(" + p + ") after a touch", x.state(p), p >= 10 || open == 1 ? open + 2 : 0);
        }
        says("20 and 21: -1 if g is no living guest");
        int[] none = {0, -1, 2, 3, 6, 7, 8, MIN, MAX};
        for (int g : none) {
            due("pool(" + g + ")", x.pool(g), -1);
            due("tables(" + g + ")", x.tables(g), -1);
        }
        says("20: How many pages are in the pool; 21: its root is none");
        due("pool(1)", x.pool(1), 1);
        due("tables(1)", x.tables(1), 2);
        due("tables(1) of a new guest", withGuest(3).tables(1), 0);
        due("pool(1) of a new guest", withGuest(0).pool(1), 0);
    }

    private static void sixthGuestOwns() {
        GuestKeeper x = new GuestKeeper();
        for (int g = 1; g <= 6; g++) {
            due("create(" + g + ")", x.create(g), g);
        }
        for (int g = 1; g <= 6; g += 5) {
            due("feed", x.feed(g, 6 + g), 1);
            due("feed", x.feed(g, 14 + g), 2);
            due("donate", x.donate(g, 8 + g, 63), 0);
            due("owner(" + (8 + g) + ")", x.owner(8 + g), g);
            due("tables(" + g + ")", x.tables(g), 2);
        }
        due("load(6, 1)", x.load(6, 1), true);
        due("destroy(6)", x.destroy(6), false);
        due("put()", x.put(), true);
        due("destroy(6)", x.destroy(6), true);
        due("owner(14)", x.owner(14), 8);
        due("owner(9)", x.owner(9), 1);
    }

    private static void usedToTheEnd() {
        says("An object is used for at most 512 calls");
        GuestKeeper x = new GuestKeeper();
        for (int call = 1; call < 512; call++) {
            due("write(0, 0, " + call + ")", x.write(0, 0, call), true);
        }
        due("read(0, 0), the 512th call", x.read(0, 0), 511);
        GuestKeeper y = new GuestKeeper();
        due("create(0)", y.create(0), 1);
        for (int call = 2; call < 512; call++) {
            due("read(0, 0)", y.read(0, 0), NOTHING);
        }
        due("faults(), the 512th call", y.faults(), 510);
    }
}
