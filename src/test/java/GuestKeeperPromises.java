/** One method or more for each promise of the document; each prints every answer that is not the one due. */
public final class GuestKeeperPromises extends Check {
    private GuestKeeperPromises() {
    }

    public static void main(String[] args) {
        newObject();
        read();
        write();
        faults();
        create();
        feed();
        donate();
        donateWipes();
        placingRefusals();
        lend();
        takeBack();
        destroy();
        reclaim();
        load();
        put();
        runArithmetic();
        runMemory();
        runJumps();
        runSharing();
        runAsking();
        runExits();
        info();
        set();
        register();
        owner();
        state();
        pool();
        tables();
        end();
    }

    private static void newObject() {
        says("1 new object");
        GuestKeeper x = new GuestKeeper();
        due("faults()", x.faults(), 0);
        due("info()", x.info(), 0);
        for (int p = 0; p < 24; p++) {
            due("owner(" + p + ")", x.owner(p), 0);
            due("state(" + p + ")", x.state(p), 0);
        }
        for (int k = 0; k < 4; k++) {
            due("register(" + k + ")", x.register(k), 0);
        }
        for (int g = 0; g < 9; g++) {
            due("pool(" + g + ")", x.pool(g), -1);
            due("tables(" + g + ")", x.tables(g), -1);
            due("load(" + g + ", 0)", x.load(g, 0), false);
            due("destroy(" + g + ")", x.destroy(g), false);
        }
        due("put()", x.put(), false);
        due("run(1, 0)", x.run(1, 0), -1);
        for (int p = 0; p < 24; p++) {
            for (int k = 0; k < 4; k++) {
                due("read(" + p + ", " + k + ")", x.read(p, k), 0);
            }
        }
        due("NOTHING", GuestKeeper.NOTHING, 1099511627776L);
        GuestKeeper y = new GuestKeeper();
        due("write(0, 0, 1) on another object", y.write(0, 0, 1), true);
        due("read(0, 0) on the first", x.read(0, 0), 0);
    }

    private static void read() {
        says("2 read");
        GuestKeeper x = new GuestKeeper();
        fill(x, 23, -1, Integer.MIN_VALUE, Integer.MAX_VALUE, 7);
        due("read(23, 0)", x.read(23, 0), -1);
        due("read(23, 1)", x.read(23, 1), Integer.MIN_VALUE);
        due("read(23, 2)", x.read(23, 2), Integer.MAX_VALUE);
        due("read(23, 3)", x.read(23, 3), 7);
        due("faults()", x.faults(), 1);
        for (int p : NO_PAGES) {
            due("read(" + p + ", 0)", x.read(p, 0), GuestKeeper.NOTHING);
        }
        for (int k : NOT_0_TO_3) {
            due("read(5, " + k + ")", x.read(5, k), GuestKeeper.NOTHING);
        }
        due("faults() after touching nothing", x.faults(), 1);
        due("state(5)", x.state(5), 0);
        due("read(5, 3)", x.read(5, 3), 0);
        due("state(5)", x.state(5), 2);
        due("create(5)", x.create(5), 1);
        due("read(5, 0) of a root", x.read(5, 0), GuestKeeper.NOTHING);
        due("read(5, 0) of a root", x.read(5, 0), GuestKeeper.NOTHING);
        due("faults()", x.faults(), 4);
        due("state(5)", x.state(5), 0);
        due("destroy(1)", x.destroy(1), true);
        due("read(5, 0) of an orphan", x.read(5, 0), GuestKeeper.NOTHING);
        due("faults()", x.faults(), 5);
    }

    private static void write() {
        says("3 write");
        GuestKeeper x = withGuest(2);
        fill(x, 0, code(LOAD, 0, 0, 3), code(TELL, 0, 0, 0), 0, 77);
        due("donate(1, 0, 0)", x.donate(1, 0, 0), 0);
        int before = x.faults();
        due("write(0, 3, 5) to a guest's page", x.write(0, 3, 5), false);
        due("write(23, 0, 5) to a root", x.write(23, 0, 5), false);
        due("write(22, 0, 5) to a keeper's page", x.write(22, 0, 5), false);
        due("faults()", x.faults(), before + 3);
        for (int p : NO_PAGES) {
            due("write(" + p + ", 0, 1)", x.write(p, 0, 1), false);
        }
        for (int k : NOT_0_TO_3) {
            due("write(9, " + k + ", 1)", x.write(9, k, 1), false);
        }
        due("faults() after touching nothing", x.faults(), before + 3);
        due("load(1, 0)", x.load(1, 0), true);
        exitDue(x, 2, 0, 2, 77);
        due("write(9, 1, 8)", x.write(9, 1, 8), true);
        due("write(9, 1, -9)", x.write(9, 1, -9), true);
        due("read(9, 1)", x.read(9, 1), -9);
        due("read(9, 0)", x.read(9, 0), 0);
        due("read(9, 2)", x.read(9, 2), 0);
        due("read(8, 1)", x.read(8, 1), 0);
    }

    private static void faults() {
        says("4 faults");
        GuestKeeper x = withGuest(2);
        due("faults()", x.faults(), 0);
        due("read(0, 0)", x.read(0, 0), 0);
        due("write(1, 0, 1)", x.write(1, 0, 1), true);
        due("faults()", x.faults(), 2);
        due("write(0, 1, 1)", x.write(0, 1, 1), true);
        due("read(1, 1)", x.read(1, 1), 0);
        due("faults()", x.faults(), 2);
        due("lend(1, 2, 0)", x.lend(1, 2, 0), 0);
        due("read(2, 0) of a lent page", x.read(2, 0), 0);
        due("faults()", x.faults(), 3);
        due("takeBack(2)", x.takeBack(2), true);
        due("read(2, 0), mapped still", x.read(2, 0), 0);
        due("faults()", x.faults(), 3);
        for (int i = 0; i < 3; i++) {
            due("read(22, 0) of the pool", x.read(22, 0), GuestKeeper.NOTHING);
        }
        due("faults()", x.faults(), 6);
        due("donate(1, 2, 0)", x.donate(1, 2, 0), 0);
        due("load(1, 0)", x.load(1, 0), true);
        due("run(1, 0)", x.run(1, 0), 4);
        due("run(3, 0)", x.run(3, 0), 4);
        due("faults(): a guest's are not counted", x.faults(), 6);
    }

    private static void create() {
        says("5 create");
        GuestKeeper x = new GuestKeeper();
        for (int p : NO_PAGES) {
            due("create(" + p + ")", x.create(p), -1);
        }
        fill(x, 0, 1, 2, 3, 4);
        due("state(0)", x.state(0), 2);
        due("create(0)", x.create(0), 1);
        due("owner(0)", x.owner(0), 7);
        due("state(0)", x.state(0), 0);
        due("pool(1)", x.pool(1), 0);
        due("tables(1)", x.tables(1), 0);
        due("create(0) again", x.create(0), -1);
        due("destroy(1)", x.destroy(1), true);
        due("create(0) of an orphan", x.create(0), -1);
        due("create(1)", x.create(1), 2);
        due("feed(2, 10)", x.feed(2, 10), 1);
        due("feed(2, 11)", x.feed(2, 11), 2);
        due("lend(2, 12, 0)", x.lend(2, 12, 0), 0);
        due("donate(2, 13, 1)", x.donate(2, 13, 1), 0);
        due("create(10) of the pool or a table", x.create(10), -1);
        due("create(12) of a lent page", x.create(12), -1);
        due("create(13) of a guest's page", x.create(13), -1);
        for (int g = 3; g <= 6; g++) {
            due("create(" + g + ")", x.create(g), g);
        }
        due("create(7)", x.create(7), -2);
        due("create(12) names -1 first", x.create(12), -1);
        due("create(24) names -1 first", x.create(24), -1);
        due("destroy(6)", x.destroy(6), true);
        due("create(7): dead guests count", x.create(7), -2);
        due("owner(7)", x.owner(7), 0);
        due("pool(7)", x.pool(7), -1);
    }

    private static void feed() {
        says("6 feed");
        GuestKeeper x = withGuest(0);
        for (int g : NO_GUESTS) {
            due("feed(" + g + ", 0)", x.feed(g, 0), -1);
        }
        due("feed(0, 24) names -1 first", x.feed(0, 24), -1);
        for (int p : NO_PAGES) {
            due("feed(1, " + p + ")", x.feed(1, p), -2);
        }
        due("write(0, 0, 9)", x.write(0, 0, 9), true);
        due("feed(1, 0)", x.feed(1, 0), 1);
        due("owner(0)", x.owner(0), 7);
        due("state(0)", x.state(0), 0);
        due("feed(1, 0) again", x.feed(1, 0), -2);
        due("feed(1, 23) of the root", x.feed(1, 23), -2);
        due("feed(1, 1)", x.feed(1, 1), 2);
        due("lend(1, 2, 0)", x.lend(1, 2, 0), 0);
        due("feed(1, 2) of a lent page", x.feed(1, 2), -2);
        due("feed(1, 3): two are tables now", x.feed(1, 3), 1);
        due("donate(1, 4, 1)", x.donate(1, 4, 1), 0);
        due("feed(1, 4) of a guest's page", x.feed(1, 4), -2);
        due("create(5)", x.create(5), 2);
        due("feed(2, 6)", x.feed(2, 6), 1);
        due("pool(1)", x.pool(1), 1);
        due("load(2, 0)", x.load(2, 0), true);
        due("feed(2, 7) while loaded", x.feed(2, 7), 2);
        due("put()", x.put(), true);
        due("destroy(2)", x.destroy(2), true);
        due("feed(2, 8)", x.feed(2, 8), -1);
        due("feed(1, 7) of an orphan", x.feed(1, 7), -2);
    }

    private static void donate() {
        says("7 donate");
        GuestKeeper x = withGuest(4);
        fill(x, 0, code(SET, 0, 0, 5), code(TELL, 0, 0, 0));
        due("donate(1, 0, 0)", x.donate(1, 0, 0), 0);
        due("owner(0)", x.owner(0), 1);
        due("state(0)", x.state(0), 0);
        due("read(0, 0)", x.read(0, 0), GuestKeeper.NOTHING);
        due("pool(1)", x.pool(1), 2);
        due("donate(1, 1, 63)", x.donate(1, 1, 63), 0);
        due("pool(1)", x.pool(1), 0);
        due("tables(1)", x.tables(1), 4);
        due("donate(1, 2, 3)", x.donate(1, 2, 3), 0);
        due("donate(1, 3, 60)", x.donate(1, 3, 60), 0);
        due("tables(1)", x.tables(1), 4);
        due("load(1, 0)", x.load(1, 0), true);
        exitDue(x, 2, 0, 2, 5);
    }

    private static void donateWipes() {
        says("7 donate wipes");
        GuestKeeper x = withGuest(2);
        int tell = code(TELL, 0, 0, 0);
        fill(x, 0, tell, tell, tell, tell);
        fill(x, 1, tell, tell, tell, tell);
        fill(x, 2, tell, tell, tell, tell);
        due("load(1, 2)", x.load(1, 2), false);
        due("donate(1, 0, 0)", x.donate(1, 0, 0), 0);
        due("load(1, 1)", x.load(1, 1), true);
        due("put()", x.put(), true);
        due("donate(1, 1, 1)", x.donate(1, 1, 1), 0);
        due("lend(1, 2, 2)", x.lend(1, 2, 2), 0);
        due("load(1, 0)", x.load(1, 0), true);
        for (int k = 0; k < 4; k++) {
            due("run(1, 0) in the page donated before", x.run(1, 0), 2);
        }
        for (int k = 0; k < 4; k++) {
            due("run(1, 0) in the page donated after", x.run(1, 0), 4);
        }
        for (int k = 0; k < 4; k++) {
            due("run(1, 0) in the page lent after", x.run(1, 0), 2);
        }
        // Another guest's load wipes nothing.
        due("put()", x.put(), true);
        due("create(10)", x.create(10), 2);
        due("feed(2, 11)", x.feed(2, 11), 1);
        due("feed(2, 12)", x.feed(2, 12), 2);
        fill(x, 3, tell);
        due("donate(2, 3, 0)", x.donate(2, 3, 0), 0);
        due("load(2, 0)", x.load(2, 0), true);
        due("run(1, 0)", x.run(1, 0), 2);
    }

    private static int place(GuestKeeper x, boolean lends, int g, int p, int place) {
        return lends ? x.lend(g, p, place) : x.donate(g, p, place);
    }

    private static void placingRefusals() {
        for (int way = 0; way < 2; way++) {
            boolean lends = way == 1;
            says(lends ? "8 lend refuses" : "7 donate refuses");
            GuestKeeper x = withGuest(0);
            due("(1, 0, 0) without a pool", place(x, lends, 1, 0, 0), -4);
            due("feed(1, 22)", x.feed(1, 22), 1);
            due("(1, 0, 0) with a pool of one", place(x, lends, 1, 0, 0), -4);
            due("owner(0)", x.owner(0), 0);
            due("state(0)", x.state(0), 0);
            due("pool(1)", x.pool(1), 1);
            due("tables(1)", x.tables(1), 0);
            due("feed(1, 21)", x.feed(1, 21), 2);
            for (int g : NO_GUESTS) {
                due("(" + g + ", 0, 0)", place(x, lends, g, 0, 0), -1);
            }
            due("(0, 24, 64) names -1 first", place(x, lends, 0, 24, 64), -1);
            for (int p : NO_PAGES) {
                due("(1, " + p + ", 64) names -2 first", place(x, lends, 1, p, 64), -2);
            }
            due("(1, 23, 0) of the root", place(x, lends, 1, 23, 0), -2);
            due("(1, 22, 0) of the pool", place(x, lends, 1, 22, 0), -2);
            due("(1, 0, 16)", place(x, lends, 1, 0, 16), 0);
            due("(1, 0, 17) twice", place(x, lends, 1, 0, 17), -2);
            due("(1, 1, 16) not empty", place(x, lends, 1, 1, 16), -3);
            int[] noPlaces = {-1, 64, Integer.MIN_VALUE, Integer.MAX_VALUE};
            for (int place : noPlaces) {
                due("(1, 1, " + place + ")", place(x, lends, 1, 1, place), -3);
            }
            due("(1, 1, 20) wants one table", place(x, lends, 1, 1, 20), -4);
            due("(1, 1, 15) wants two tables", place(x, lends, 1, 1, 15), -4);
            due("(1, 1, 32) wants two tables", place(x, lends, 1, 1, 32), -4);
            due("(1, 1, 19) wants none", place(x, lends, 1, 1, 19), 0);
            due("feed(1, 20)", x.feed(1, 20), 1);
            due("(1, 2, 15) wants two tables", place(x, lends, 1, 2, 15), -4);
            due("(1, 2, 31) wants one table", place(x, lends, 1, 2, 31), 0);
            due("pool(1)", x.pool(1), 0);
            due("tables(1)", x.tables(1), 3);
        }
        says("7 and 8, dead guest");
        GuestKeeper x = withGuest(2);
        due("destroy(1)", x.destroy(1), true);
        due("donate(1, 0, 0)", x.donate(1, 0, 0), -1);
        due("lend(1, 0, 0)", x.lend(1, 0, 0), -1);
        due("create(0)", x.create(0), 2);
        due("donate(2, 22, 0) of an orphan", x.donate(2, 22, 0), -2);
        due("lend(2, 22, 0) of an orphan", x.lend(2, 22, 0), -2);
    }

    private static void lend() {
        says("8 lend");
        GuestKeeper x = withGuest(4);
        fill(x, 0, code(SET, 0, 0, 33), code(STORE, 0, 1, 3), code(LOAD, 2, 1, 2), 0);
        due("state(0)", x.state(0), 2);
        due("load(1, 0)", x.load(1, 0), true);
        due("lend(1, 0, 0)", x.lend(1, 0, 0), 0);
        due("owner(0)", x.owner(0), 0);
        due("state(0), mapped still", x.state(0), 3);
        due("lend(1, 1, 1)", x.lend(1, 1, 1), 0);
        due("state(1), never mapped", x.state(1), 1);
        due("read(0, 0), words stay", x.read(0, 0), code(SET, 0, 0, 33));
        due("run(2, 0)", x.run(2, 0), 0);
        due("read(0, 3), stored by the guest", x.read(0, 3), 33);
        due("write(1, 0, TELL) by the host", x.write(1, 0, code(TELL, 2, 0, 0)), true);
        due("write(0, 3, XOR) by the host", x.write(0, 3, code(XOR, 3, 3, 0)), true);
        exitDue(x, 5, 0, 2, code(LOAD, 2, 1, 2));
        due("lend(1, 2, 16)", x.lend(1, 2, 16), 0);
        due("tables(1)", x.tables(1), 4);
        due("pool(1)", x.pool(1), 0);
        due("lend(1, 2, 17) of a lent page", x.lend(1, 2, 17), -2);
    }

    private static void takeBack() {
        says("9 takeBack");
        GuestKeeper x = withGuest(5);
        for (int p : NO_PAGES) {
            due("takeBack(" + p + ")", x.takeBack(p), false);
        }
        due("takeBack(0) of a free page", x.takeBack(0), false);
        due("takeBack(23) of the root", x.takeBack(23), false);
        fill(x, 0, code(SET, 0, 0, 7), code(SHARE, 0, 0, 0), code(TELL, 0, 0, 0), 0);
        due("donate(1, 0, 0)", x.donate(1, 0, 0), 0);
        due("write(1, 2, 6)", x.write(1, 2, 6), true);
        due("lend(1, 1, 4)", x.lend(1, 1, 4), 0);
        due("lend(1, 2, 5)", x.lend(1, 2, 5), 0);
        due("lend(1, 3, 16)", x.lend(1, 3, 16), 0);
        due("donate(1, 4, 7)", x.donate(1, 4, 7), 0);
        due("tables(1)", x.tables(1), 5);
        due("takeBack(0) of a guest's page", x.takeBack(0), false);
        due("load(1, 0)", x.load(1, 0), true);
        exitDue(x, 3, 0, 2, 1);
        due("takeBack(4) of a shared page", x.takeBack(4), false);
        due("state(4)", x.state(4), 1);
        due("takeBack(3) while the guest runs", x.takeBack(3), true);
        due("tables(1)", x.tables(1), 3);
        due("pool(1)", x.pool(1), 2);
        due("owner(3)", x.owner(3), 0);
        due("state(3)", x.state(3), 0);
        due("takeBack(3) again", x.takeBack(3), false);
        due("run(1, 0)", x.run(1, 0), 4);
        exitDue(x, 1, 0, 1, 4);
        due("donate(1, 5, 1)", x.donate(1, 5, 1), 0);
        due("takeBack(1)", x.takeBack(1), true);
        due("state(1), mapped still", x.state(1), 2);
        due("read(1, 2), words stay", x.read(1, 2), 6);
        due("tables(1): page 2 needs them still", x.tables(1), 3);
        due("takeBack(2)", x.takeBack(2), true);
        due("tables(1): page 4 needs them still", x.tables(1), 3);
        due("lend(1, 2, 4): the place is empty", x.lend(1, 2, 4), 0);
        due("create(1): the page is free", x.create(1), 2);
    }

    private static void destroy() {
        says("10 destroy");
        GuestKeeper x = running(code(SET, 0, 0, 1), code(SHARE, 0, 0, 0), code(TELL, 0, 0, 0));
        for (int g : NO_GUESTS) {
            due("destroy(" + g + ")", x.destroy(g), false);
        }
        exitDue(x, 3, 0, 2, 1);
        due("read(1, 0) of a shared page", x.read(1, 0), 0);
        due("state(1)", x.state(1), 3);
        due("lend(1, 3, 20)", x.lend(1, 3, 20), 0);
        due("read(3, 0)", x.read(3, 0), 0);
        due("create(4)", x.create(4), 2);
        due("feed(2, 5)", x.feed(2, 5), 1);
        due("feed(2, 6)", x.feed(2, 6), 2);
        due("donate(2, 7, 0)", x.donate(2, 7, 0), 0);
        due("lend(2, 8, 1)", x.lend(2, 8, 1), 0);
        due("destroy(1) while loaded", x.destroy(1), false);
        due("owner(0)", x.owner(0), 1);
        due("put()", x.put(), true);
        due("load(1, 1)", x.load(1, 1), true);
        due("destroy(1) while loaded", x.destroy(1), false);
        due("put()", x.put(), true);
        due("load(2, 0)", x.load(2, 0), true);
        due("destroy(1) while another is loaded", x.destroy(1), true);
        for (int p = 0; p < 24; p++) {
            boolean orphan = p <= 2 || p >= 17 && p <= 23;
            int keepers = p >= 4 && p <= 6 ? 7 : 0;
            due("owner(" + p + ")", x.owner(p), orphan ? 8 : p == 7 ? 2 : keepers);
            due("state(" + p + ")", x.state(p), p == 3 ? 2 : p == 8 ? 1 : 0);
        }
        due("takeBack(3)", x.takeBack(3), false);
        due("read(1, 0)", x.read(1, 0), GuestKeeper.NOTHING);
        due("destroy(1) again", x.destroy(1), false);
        due("pool(1)", x.pool(1), -1);
        due("tables(1)", x.tables(1), -1);
        due("pool(2)", x.pool(2), 0);
        due("tables(2)", x.tables(2), 2);
        due("takeBack(8)", x.takeBack(8), true);
        due("create(3): the page is free", x.create(3), 3);
        due("info()", x.info(), 1);
    }

    private static void reclaim() {
        says("11 reclaim");
        GuestKeeper x = running(code(SET, 0, 0, 0), code(SHARE, 0, 0, 0), code(TELL, 0, 0, 0), 55);
        exitDue(x, 3, 0, 2, 1);
        due("read(0, 3)", x.read(0, 3), 55);
        for (int p : NO_PAGES) {
            due("reclaim(" + p + ")", x.reclaim(p), false);
        }
        due("reclaim(0) of a guest's page", x.reclaim(0), false);
        due("reclaim(23) of a root", x.reclaim(23), false);
        due("reclaim(9) of the host's page", x.reclaim(9), false);
        due("put()", x.put(), true);
        due("destroy(1)", x.destroy(1), true);
        int before = x.faults();
        due("reclaim(0)", x.reclaim(0), true);
        due("owner(0)", x.owner(0), 0);
        due("state(0)", x.state(0), 0);
        for (int k = 0; k < 4; k++) {
            due("read(0, " + k + ")", x.read(0, k), 0);
        }
        due("faults()", x.faults(), before + 1);
        due("reclaim(0) again", x.reclaim(0), false);
        due("reclaim(23)", x.reclaim(23), true);
        due("create(23)", x.create(23), 2);
        due("owner(22)", x.owner(22), 8);
    }

    private static void load() {
        says("12 load");
        GuestKeeper x = withGuest(0);
        due("create(0)", x.create(0), 2);
        int[] none = {-1, 0, 3, 6, 7, Integer.MIN_VALUE, Integer.MAX_VALUE};
        for (int g : none) {
            due("load(" + g + ", 0)", x.load(g, 0), false);
        }
        int[] noProcessors = {-1, 2, Integer.MIN_VALUE, Integer.MAX_VALUE};
        for (int v : noProcessors) {
            due("load(1, " + v + ")", x.load(1, v), false);
        }
        due("put(): nothing was loaded", x.put(), false);
        due("load(1, 0)", x.load(1, 0), true);
        due("load(1, 0) again", x.load(1, 0), false);
        due("load(1, 1)", x.load(1, 1), false);
        due("load(2, 0)", x.load(2, 0), false);
        due("put()", x.put(), true);
        due("load(2, 1)", x.load(2, 1), true);
        due("put()", x.put(), true);
        due("destroy(2)", x.destroy(2), true);
        due("load(2, 1)", x.load(2, 1), false);
        due("load(1, 1)", x.load(1, 1), true);
    }

    private static void put() {
        says("13 put");
        GuestKeeper x = running(code(SET, 1, 0, 9), code(ADD, 1, 1, 0), code(TELL, 1, 0, 0), code(TELL, 1, 0, 0));
        due("run(2, 0)", x.run(2, 0), 0);
        due("put()", x.put(), true);
        due("put() again", x.put(), false);
        due("run(1, 0)", x.run(1, 0), -1);
        due("load(1, 1)", x.load(1, 1), true);
        due("run(1, 0) of the other", x.run(1, 0), 0);
        due("put()", x.put(), true);
        due("load(1, 0)", x.load(1, 0), true);
        exitDue(x, 1, 0, 2, 18);
        due("put()", x.put(), true);
        due("load(1, 1)", x.load(1, 1), true);
        exitDue(x, 2, 0, 2, 18);
        exitDue(x, 1, 0, 2, 18);
    }

    private static void runArithmetic() {
        says("14 run, arithmetic");
        GuestKeeper x = running(
                code(SET, 0, 0, -1), code(TELL, 0, 3, 99), code(SET, 3, 0, 0x7FFFFF), code(TELL, 3, 0, 0),
                code(ADD, 3, 0, 5), code(TELL, 3, 0, 0), code(XOR, 0, 3, 5), code(TELL, 0, 0, 0),
                code(XOR, 0, 0, 0), code(TELL, 0, 0, 0), code(SET, 2, 0, -0x800000), code(TELL, 2, 0, 0));
        exitDue(x, 2, 0, 2, -1);
        exitDue(x, 2, 0, 2, 0x7FFFFF);
        exitDue(x, 2, 0, 2, 0x7FFFFE);
        exitDue(x, 2, 0, 2, ~0x7FFFFE);
        exitDue(x, 2, 0, 2, 0);
        exitDue(x, 2, 0, 2, -0x800000);

        GuestKeeper y = running(code(LOAD, 0, 1, 8), code(LOAD, 2, 1, 9), code(ADD, 0, 2, 0), code(TELL, 0, 0, 0),
                code(ADD, 0, 0, 0), code(TELL, 0, 0, 0), 0, 0, Integer.MAX_VALUE, 1);
        exitDue(y, 4, 0, 2, Integer.MIN_VALUE);
        exitDue(y, 2, 0, 2, 0);
    }

    private static void runMemory() {
        says("14 run, memory");
        GuestKeeper x = running(
                code(SET, 1, 0, 300), code(LOAD, 2, 1, -33), code(STORE, 1, 2, 3), code(LOAD, 3, 2, 3),
                code(TELL, 3, 0, 0), code(SET, 2, 0, -1), code(STORE, 2, 2, 4), code(LOAD, 1, 0, 3),
                code(TELL, 1, 0, 0), code(LOAD, 2, 2, 1), code(TELL, 2, 0, 0), code(STORE, 0, 3, 100));
        // 300 - 33 = 267, and 267 mod 256 = 11, the STORE at the end.
        due("run(2, 0)", x.run(2, 0), 0);
        int at = code(STORE, 0, 3, 100) + 3 & 255;
        exitDue(x, 1, 0, 1, at);
        exitDue(x, 1, 0, 1, at);
        due("donate(1, 3, " + at / 4 + ")", x.donate(1, 3, at / 4), 0);
        exitDue(x, 3, 0, 2, 300);
        due("run(3, 0)", x.run(3, 0), 0);
        exitDue(x, 1, 0, 2, -1);
        exitDue(x, 2, 0, 2, code(SET, 1, 0, 300));
        exitDue(x, 1, 0, 1, 300 + 100 & 255);
        due("lend(1, 4, 36)", x.lend(1, 4, 36), 0);
        exitDue(x, 1, 0, 0, 0);
        exitDue(x, 1, 0, 1, 12);
        exitDue(x, 64, 0, 1, 12);

        GuestKeeper y = running(code(SET, 0, 0, code(TELL, 1, 0, 0)), code(SET, 1, 0, 6), code(STORE, 0, 1, -3), 0);
        exitDue(y, 4, 0, 2, 6);
        due("donate(1, 3, 3)", y.donate(1, 3, 3), 0);
        exitDue(y, 1, 0, 4, 0);

        GuestKeeper z = running(code(LOAD, 0, 0, 0), code(TELL, 0, 0, 0), code(STORE, 1, 1, 255));
        exitDue(z, 2, 0, 2, code(LOAD, 0, 0, 0));
        exitDue(z, 1, 0, 1, 255);
    }

    private static void runJumps() {
        says("14 run, jumps");
        GuestKeeper x = withGuest(4);
        fill(x, 0, code(JUMP, 0, 0, 9), code(SET, 0, 0, 1), code(JUMP, 0, 0, -2), code(TELL, 0, 0, 0));
        fill(x, 1, code(STOP, 0, 0, 0), code(STOP, 0, 0, 0), code(ADD, 1, 0, 0), code(TELL, 1, 0, 0));
        due("donate(1, 0, 0)", x.donate(1, 0, 0), 0);
        due("donate(1, 1, 63)", x.donate(1, 1, 63), 0);
        due("load(1, 0)", x.load(1, 0), true);
        // 0 is not jumped from, 2 jumps to 254, 255 is followed by 0, and 0 jumps to 9 then.
        exitDue(x, 3, 0, 0, 0);
        exitDue(x, 64, 0, 2, 1);
        exitDue(x, 64, 0, 1, 9);

        GuestKeeper y = running(code(SET, 3, 0, 256), code(JUMP, 3, 0, 256 * 5 + 3), code(STOP, 0, 0, 0), code(JUMP, 3, 0, 3));
        due("run(64, 0)", y.run(64, 0), 0);
        due("run(64, 0)", y.run(64, 0), 0);
        due("run(0, 0)", y.run(0, 0), -1);
        due("run(-1, 0)", y.run(-1, 0), -1);
        due("run(65, 0)", y.run(65, 0), -1);
        due("run(MIN, 0)", y.run(Integer.MIN_VALUE, 0), -1);
        due("run(MAX, 0)", y.run(Integer.MAX_VALUE, 0), -1);
    }

    private static void runSharing() {
        says("14 run, sharing");
        GuestKeeper x = withGuest(2);
        int tell = code(TELL, 0, 0, 0);
        fill(x, 0, code(ASK, 0, 0, 0), code(SHARE, 0, 0, 0), tell, code(ASK, 1, 0, 0));
        fill(x, 1, code(UNSHARE, 1, 0, 0), code(TELL, 1, 0, 0), code(SET, 2, 0, 1), code(JUMP, 2, 0, 0));
        due("donate(1, 0, 0)", x.donate(1, 0, 0), 0);
        due("donate(1, 1, 1)", x.donate(1, 1, 1), 0);
        fill(x, 2, 66);
        due("donate(1, 2, 2)", x.donate(1, 2, 2), 0);
        due("lend(1, 3, 3)", x.lend(1, 3, 3), 0);
        due("load(1, 0)", x.load(1, 0), true);
        // Each row: the place to share, what is told, whether page 2 is shared then; the same for unshare.
        int[][] rows = {
            {2, 1, 1, 5, 0, 1}, {2, 0, 1, 3, 0, 1}, {5, 0, 1, 2, 1, 0}, {3, 0, 0, 2, 0, 0}, {34, 0, 0, 2, 0, 0},
            {-62, 1, 1, 66, 1, 0}, {64002, 1, 1, 1, 0, 1}, {0, 1, 1, 2, 1, 0}};
        for (int[] row : rows) {
            for (int i = 0; i < 6; i += 3) {
                exitDue(x, 64, 0, 3, 0);
                exitDue(x, 64, row[i], 2, row[i + 1]);
                due("state(2) % 2", x.state(2) % 2, row[i + 2]);
                due("read(2, 0)", x.read(2, 0), row[i + 2] == 1 ? 66 : GuestKeeper.NOTHING);
                due("state(2)", x.state(2), row[i + 2] == 1 ? 3 : 0);
                due("owner(2)", x.owner(2), 1);
                due("state(3) stays lent", x.state(3), 1);
            }
        }
        due("state(0)", x.state(0), 1);
        due("write(0, 2, STOP) to a shared page", x.write(0, 2, code(STOP, 0, 0, 0)), true);
        exitDue(x, 64, 0, 3, 0);
        exitDue(x, 64, 0, 4, 0);
        due("takeBack(3)", x.takeBack(3), true);
    }

    private static void runAsking() {
        says("14 run, asking");
        GuestKeeper x = running(
                code(SET, 2, 0, 4), code(ASK, 2, 0, 0), code(TELL, 2, 0, 0), code(ASK, 1, 0, 0),
                code(TELL, 1, 0, 0), code(TELL, 2, 0, 0), code(ASK, 3, 0, 0), code(LOAD, 0, 3, 0),
                code(ASK, 0, 0, 0), code(TELL, 0, 0, 0), code(ASK, 0, 0, 0), code(ASK, 0, 0, 0));
        exitDue(x, 2, 11, 3, 0);
        due("run(0, 12) is refused", x.run(0, 12), -1);
        due("put()", x.put(), true);
        due("run(1, 13) is refused", x.run(1, 13), -1);
        due("load(1, 1)", x.load(1, 1), true);
        exitDue(x, 1, 14, 0, 0);
        exitDue(x, 1, 14, 3, 0);
        due("put()", x.put(), true);
        due("load(1, 0)", x.load(1, 0), true);
        exitDue(x, 1, 15, 2, 15);
        exitDue(x, 1, 16, 3, 0);
        exitDue(x, 1, 17, 2, 17);
        exitDue(x, 1, 18, 2, 15);
        exitDue(x, 1, 19, 3, 0);
        // The answer is taken although the step faults; the next run's answer is of no matter.
        exitDue(x, 1, -56, 1, 200);
        exitDue(x, 1, 5, 1, 200);
        due("lend(1, 10, 50)", x.lend(1, 10, 50), 0);
        exitDue(x, 2, 5, 3, 0);
        exitDue(x, 1, Integer.MIN_VALUE, 2, Integer.MIN_VALUE);
        exitDue(x, 64, 1, 3, 0);
        exitDue(x, 64, 1, 3, 0);
        exitDue(x, 64, 1, 1, 12);
        due("put()", x.put(), true);
        due("load(1, 1)", x.load(1, 1), true);
        exitDue(x, 1, 20, 2, 20);

        // The ASK's own word may be another by the time of the answer.
        GuestKeeper y = withGuest(2);
        fill(y, 0, code(ASK, 1, 0, 0), code(TELL, 1, 0, 0), code(TELL, 2, 0, 0));
        due("lend(1, 0, 0)", y.lend(1, 0, 0), 0);
        due("load(1, 0)", y.load(1, 0), true);
        exitDue(y, 9, 0, 3, 0);
        due("write(0, 0, ASK r2)", y.write(0, 0, code(ASK, 2, 0, 0)), true);
        exitDue(y, 9, 31, 2, 31);
        exitDue(y, 9, 32, 2, 0);
    }

    private static void runExits() {
        says("14 run, exits");
        GuestKeeper x = running(code(STOP, 1, 2, 3), code(SET, 0, 0, 8), code(TELL, 0, 0, 0), 0, 11);
        due("put()", x.put(), true);
        due("run(1, 0), none loaded", x.run(1, 0), -1);
        due("load(1, 0)", x.load(1, 0), true);
        exitDue(x, 64, 0, 4, 0);
        exitDue(x, 1, 0, 0, 0);
        exitDue(x, 1, 0, 2, 8);
        exitDue(x, 1, 0, 4, 0);
        exitDue(x, 1, 0, 5, 0);
        exitDue(x, 64, 0, 5, 0);

        for (int op = 11; op < 16; op++) {
            GuestKeeper y = running(code(SET, 0, 0, 4), code(TELL, 0, 0, 0), code(op, 0, 0, 0), code(TELL, 0, 0, 0));
            exitDue(y, 2, 0, 2, 4);
            exitDue(y, 1, 0, 5, 0);
            exitDue(y, 2, 0, 5, 0);
        }

        GuestKeeper z = withGuest(0);
        due("load(1, 0)", z.load(1, 0), true);
        exitDue(z, 64, 0, 1, 0);
        due("faults()", z.faults(), 0);
    }

    private static void info() {
        says("15 info");
        GuestKeeper x = running(code(SET, 0, 0, -3), code(TELL, 0, 0, 0), code(LOAD, 1, 0, 0), code(TELL, 1, 0, 0));
        due("info()", x.info(), 0);
        exitDue(x, 2, 0, 2, -3);
        due("run(0, 0) is refused", x.run(0, 0), -1);
        due("info()", x.info(), -3);
        due("put()", x.put(), true);
        due("info() after put", x.info(), -3);
        due("load(1, 1)", x.load(1, 1), true);
        due("info() after load", x.info(), -3);
        exitDue(x, 1, 0, 0, 0);
        exitDue(x, 1, 0, 2, -3);
        exitDue(x, 1, 0, 1, 253);
        due("put()", x.put(), true);
        due("destroy(1)", x.destroy(1), true);
        due("info() after destroy", x.info(), 253);
    }

    private static void set() {
        says("16 set");
        GuestKeeper x = withGuest(0);
        for (int k = 0; k < 4; k++) {
            due("set(" + k + ", ..)", x.set(k, 10 * k - 7), true);
        }
        for (int k : NOT_0_TO_3) {
            due("set(" + k + ", 1)", x.set(k, 1), false);
        }
        due("load(1, 0)", x.load(1, 0), true);
        due("set(0, 99) while loaded", x.set(0, 99), false);
        due("set(4, 99) while loaded", x.set(4, 99), false);
        due("put()", x.put(), true);
        for (int k = 0; k < 4; k++) {
            due("register(" + k + ")", x.register(k), 10 * k - 7);
        }
        due("set(0, 0)", x.set(0, 0), true);
        due("register(0)", x.register(0), 0);
    }

    private static void register() {
        says("17 register");
        GuestKeeper x = running(code(SET, 0, 0, 5), code(SET, 1, 0, 6), code(STOP, 0, 0, 0));
        due("put()", x.put(), true);
        due("set(0, 41)", x.set(0, 41), true);
        due("set(3, -1)", x.set(3, -1), true);
        for (int k : NOT_0_TO_3) {
            due("register(" + k + ")", x.register(k), 0);
        }
        due("load(1, 0)", x.load(1, 0), true);
        due("run(9, 0)", x.run(9, 0), 4);
        for (int k = -1; k < 5; k++) {
            due("register(" + k + ") while loaded", x.register(k), 0);
        }
        due("put()", x.put(), true);
        due("register(0)", x.register(0), 41);
        due("register(1)", x.register(1), 0);
        due("register(3)", x.register(3), -1);
    }

    private static void owner() {
        says("18 owner");
        GuestKeeper x = new GuestKeeper();
        for (int p : NO_PAGES) {
            due("owner(" + p + ")", x.owner(p), -1);
        }
        for (int g = 1; g <= 6; g++) {
            due("create(" + g + ")", x.create(g), g);
        }
        due("feed(6, 7)", x.feed(6, 7), 1);
        due("feed(6, 8)", x.feed(6, 8), 2);
        due("donate(6, 9, 0)", x.donate(6, 9, 0), 0);
        due("lend(6, 10, 1)", x.lend(6, 10, 1), 0);
        due("owner(6)", x.owner(6), 7);
        due("owner(7)", x.owner(7), 7);
        due("owner(9)", x.owner(9), 6);
        due("owner(10)", x.owner(10), 0);
        due("owner(23)", x.owner(23), 0);
        due("destroy(6)", x.destroy(6), true);
        due("owner(6)", x.owner(6), 8);
        due("owner(7)", x.owner(7), 8);
        due("owner(9)", x.owner(9), 8);
        due("owner(10)", x.owner(10), 0);
        due("owner(5)", x.owner(5), 7);
        due("reclaim(9)", x.reclaim(9), true);
        due("owner(9)", x.owner(9), 0);
    }

    private static void state() {
        says("19 state");
        GuestKeeper x = running(code(SET, 0, 0, 0), code(SHARE, 0, 0, 0), code(SET, 0, 0, 0), code(UNSHARE, 0, 0, 0));
        for (int p : NO_PAGES) {
            due("state(" + p + ")", x.state(p), -1);
        }
        due("state(5)", x.state(5), 0);
        due("read(5, 0)", x.read(5, 0), 0);
        due("state(5)", x.state(5), 2);
        due("lend(1, 5, 5)", x.lend(1, 5, 5), 0);
        due("state(5)", x.state(5), 3);
        due("lend(1, 6, 6)", x.lend(1, 6, 6), 0);
        due("state(6)", x.state(6), 1);
        due("state(0)", x.state(0), 0);
        due("run(2, 0)", x.run(2, 0), 0);
        due("state(0)", x.state(0), 1);
        due("write(0, 0, 1)", x.write(0, 0, 1), true);
        due("state(0)", x.state(0), 3);
        due("run(2, 0)", x.run(2, 0), 0);
        due("state(0), mapped no more", x.state(0), 0);
        due("write(0, 0, 1)", x.write(0, 0, 1), false);
        due("state(0)", x.state(0), 0);
        due("takeBack(5)", x.takeBack(5), true);
        due("state(5)", x.state(5), 2);
        due("donate(1, 5, 5)", x.donate(1, 5, 5), 0);
        due("state(5), mapped no more", x.state(5), 0);
    }

    private static void pool() {
        says("20 pool");
        GuestKeeper x = withGuest(3);
        for (int g : NO_GUESTS) {
            due("pool(" + g + ")", x.pool(g), -1);
        }
        due("pool(1)", x.pool(1), 3);
        due("lend(1, 0, 47)", x.lend(1, 0, 47), 0);
        due("pool(1)", x.pool(1), 1);
        due("lend(1, 1, 43)", x.lend(1, 1, 43), 0);
        due("pool(1)", x.pool(1), 0);
        due("takeBack(0)", x.takeBack(0), true);
        due("pool(1)", x.pool(1), 1);
        due("takeBack(1)", x.takeBack(1), true);
        due("pool(1)", x.pool(1), 3);
        due("destroy(1)", x.destroy(1), true);
        due("pool(1)", x.pool(1), -1);
    }

    private static void tables() {
        says("21 tables");
        GuestKeeper x = withGuest(16);
        for (int g : NO_GUESTS) {
            due("tables(" + g + ")", x.tables(g), -1);
        }
        int[] places = {0, 3, 4, 15, 16, 31, 48};
        int[] tables = {2, 2, 3, 4, 6, 7, 9};
        due("tables(1)", x.tables(1), 0);
        for (int i = 0; i < 7; i++) {
            due("lend(1, " + i + ", " + places[i] + ")", x.lend(1, i, places[i]), 0);
            due("tables(1)", x.tables(1), tables[i]);
            due("pool(1)", x.pool(1), 16 - tables[i]);
        }
        for (int i = 6; i > 0; i--) {
            due("takeBack(" + i + ")", x.takeBack(i), true);
            due("tables(1)", x.tables(1), tables[i - 1]);
            due("pool(1)", x.pool(1), 16 - tables[i - 1]);
        }
        due("destroy(1)", x.destroy(1), true);
        due("tables(1)", x.tables(1), -1);
    }
}
