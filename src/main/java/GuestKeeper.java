/**
 * A keeper between a host that is not trusted and the guests that the host runs.
 * The public methods look at their arguments; what they call may rely on that.
 */
public final class GuestKeeper {
    /** What read() answers when the host gets nothing. */
    public static final long NOTHING = 1L << 40;

    private static final int PAGES = 24;
    private static final int WORDS = 4;
    private static final int MOST_GUESTS = 6;
    private static final int PLACES = 64;
    private static final int PROCESSORS = 2;
    private static final int REGISTERS = 4;
    private static final int MOST_STEPS = 64;
    private static final int LARGE_TABLE = 16;
    private static final int SMALL_TABLE = 4;

    private static final int HOST = 0;
    private static final int KEEPER = 7;
    private static final int NOBODY = 8;
    private static final int NO_GUEST = 0;
    private static final int NO_REGISTER = -1;

    private static final int ADDRESS_MASK = 255;
    private static final int PLACE_MASK = 63;

    private static final int OP_STOP = 0;
    private static final int OP_SET = 1;
    private static final int OP_ADD = 2;
    private static final int OP_LOAD = 3;
    private static final int OP_STORE = 4;
    private static final int OP_JUMP = 5;
    private static final int OP_SHARE = 6;
    private static final int OP_UNSHARE = 7;
    private static final int OP_TELL = 8;
    private static final int OP_ASK = 9;
    private static final int OP_XOR = 10;

    /** Also what a step answers behind which the run goes on. */
    private static final int EXIT_STEPS_DONE = 0;
    private static final int EXIT_FAULT = 1;
    private static final int EXIT_TELL = 2;
    private static final int EXIT_ASK = 3;
    private static final int EXIT_STOP = 4;
    private static final int EXIT_BAD = 5;

    private final Page[] pages;
    private final Guest[] guests;
    private final int[] hostRegisters;
    private int guestsMade;
    private int hostFaults;
    private int latestInfo;
    /** Both are null while no processor is loaded. */
    private Guest loadedGuest;
    private Processor loadedProcessor;

    public GuestKeeper() {
        pages = new Page[PAGES];
        for (int p = 0; p < PAGES; p++) {
            pages[p] = new Page();
        }
        guests = new Guest[MOST_GUESTS];
        hostRegisters = new int[REGISTERS];
    }

    public long read(int p, int k) {
        if (!isPage(p) || !isWord(k) || !hostReaches(pages[p])) {
            return NOTHING;
        }
        return pages[p].words[k];
    }

    public boolean write(int p, int k, int v) {
        if (!isPage(p) || !isWord(k) || !hostReaches(pages[p])) {
            return false;
        }
        pages[p].words[k] = v;
        return true;
    }

    public int faults() {
        return hostFaults;
    }

    public int create(int p) {
        if (!isFreePage(p)) {
            return -1;
        }
        if (guestsMade >= MOST_GUESTS) {
            return -2;
        }
        guests[guestsMade] = new Guest(guestsMade + 1);
        guestsMade++;
        pages[p].becomeKeepers(guestsMade);
        return guestsMade;
    }

    public int feed(int g, int p) {
        Guest guest = livingGuest(g);
        if (guest == null) {
            return -1;
        }
        if (!isFreePage(p)) {
            return -2;
        }
        pages[p].becomeKeepers(g);
        guest.pagesFed++;
        return guest.poolSize();
    }

    public int donate(int g, int p, int place) {
        Guest guest = livingGuest(g);
        int refusal = placingRefusal(guest, p, place);
        if (guest == null || refusal != 0) {
            return refusal;
        }
        Page page = pages[p];
        // A guest that has started must not find words there that the host chose.
        if (guest.everLoaded) {
            page.wipe();
        }
        page.changeOwner(g);
        guest.places[place] = page;
        return 0;
    }

    public int lend(int g, int p, int place) {
        Guest guest = livingGuest(g);
        int refusal = placingRefusal(guest, p, place);
        if (guest == null || refusal != 0) {
            return refusal;
        }
        pages[p].lentTo = g;
        guest.places[place] = pages[p];
        return 0;
    }

    public boolean takeBack(int p) {
        if (!isPage(p) || pages[p].lentTo == NO_GUEST) {
            return false;
        }
        Page page = pages[p];
        Guest guest = livingGuest(page.lentTo);
        if (guest != null) {
            guest.removePage(page);
        }
        page.lentTo = NO_GUEST;
        return true;
    }

    public boolean destroy(int g) {
        Guest guest = livingGuest(g);
        if (guest == null || guest == loadedGuest) {
            return false;
        }
        guest.alive = false;
        for (int p = 0; p < PAGES; p++) {
            pages[p].loseGuest(g);
        }
        return true;
    }

    public boolean reclaim(int p) {
        if (!isPage(p) || pages[p].ownerNumber != NOBODY) {
            return false;
        }
        pages[p].wipe();
        pages[p].changeOwner(HOST);
        return true;
    }

    public boolean load(int g, int v) {
        Guest guest = livingGuest(g);
        if (loadedProcessor != null || guest == null || v < 0 || v >= PROCESSORS) {
            return false;
        }
        guest.everLoaded = true;
        loadedGuest = guest;
        loadedProcessor = guest.processors[v];
        return true;
    }

    public boolean put() {
        if (loadedProcessor == null) {
            return false;
        }
        loadedGuest = null;
        loadedProcessor = null;
        return true;
    }

    public int run(int n, int answer) {
        if (loadedProcessor == null || loadedGuest == null || n < 1 || n > MOST_STEPS) {
            return -1;
        }
        loadedProcessor.receiveAnswer(answer);
        int exit = loadedProcessor.makeSteps(n, loadedGuest);
        latestInfo = loadedProcessor.exitInfo;
        return exit;
    }

    public int info() {
        return latestInfo;
    }

    public boolean set(int k, int v) {
        if (!isRegister(k) || loadedProcessor != null) {
            return false;
        }
        hostRegisters[k] = v;
        return true;
    }

    public int register(int k) {
        if (!isRegister(k) || loadedProcessor != null) {
            return 0;
        }
        return hostRegisters[k];
    }

    public int owner(int p) {
        return isPage(p) ? pages[p].ownerNumber : -1;
    }

    public int state(int p) {
        if (!isPage(p)) {
            return -1;
        }
        Page page = pages[p];
        int open = page.shared || page.lentTo != NO_GUEST ? 1 : 0;
        return page.mapped ? open + 2 : open;
    }

    public int pool(int g) {
        Guest guest = livingGuest(g);
        return guest == null ? -1 : guest.poolSize();
    }

    public int tables(int g) {
        Guest guest = livingGuest(g);
        return guest == null ? -1 : guest.countTables();
    }

    private static boolean isPage(int p) {
        return p >= 0 && p < PAGES;
    }

    private static boolean isWord(int k) {
        return k >= 0 && k < WORDS;
    }

    private static boolean isRegister(int k) {
        return k >= 0 && k < REGISTERS;
    }

    private boolean isFreePage(int p) {
        return isPage(p) && pages[p].ownerNumber == HOST && pages[p].lentTo == NO_GUEST;
    }

    /** Null if g is no living guest. */
    private Guest livingGuest(int g) {
        if (g < 1 || g > guestsMade || g > MOST_GUESTS) {
            return null;
        }
        Guest guest = guests[g - 1];
        return guest != null && guest.alive ? guest : null;
    }

    private boolean hostReaches(Page page) {
        if (page.mapped) {
            return true;
        }
        hostFaults++;
        page.mapped = page.isOpenToHost();
        return page.mapped;
    }

    /** What donate and lend answer when they refuse; 0 if they do not. */
    private int placingRefusal(Guest guest, int p, int place) {
        if (guest == null) {
            return -1;
        }
        if (!isFreePage(p)) {
            return -2;
        }
        if (place < 0 || place >= PLACES || guest.places[place] != null) {
            return -3;
        }
        return guest.poolSize() < guest.newTablesFor(place) ? -4 : 0;
    }

    private static final class Page {
        final int[] words = new int[WORDS];
        int ownerNumber = HOST;
        /** The guest it is lent to. */
        int lentTo = NO_GUEST;
        /** The guest whose root, table or pool page it is, while the keeper owns it. */
        int keptFor = NO_GUEST;
        boolean shared;
        boolean mapped;

        void wipe() {
            for (int k = 0; k < WORDS; k++) {
                words[k] = 0;
            }
        }

        boolean isOpenToHost() {
            return ownerNumber == HOST || shared;
        }

        void changeOwner(int newOwner) {
            ownerNumber = newOwner;
            keptFor = NO_GUEST;
            changeSharing(false);
        }

        void changeSharing(boolean nowShared) {
            shared = nowShared;
            // The mapping must not outlive the host's right to touch the page.
            if (!isOpenToHost()) {
                mapped = false;
            }
        }

        void becomeKeepers(int g) {
            wipe();
            changeOwner(KEEPER);
            keptFor = g;
        }

        void loseGuest(int g) {
            if (ownerNumber == g || keptFor == g) {
                changeOwner(NOBODY);
            }
            if (lentTo == g) {
                lentTo = NO_GUEST;
            }
        }
    }

    private static final class Guest {
        final int number;
        /** Null stands for an empty place. */
        final Page[] places = new Page[PLACES];
        final Processor[] processors = new Processor[PROCESSORS];
        boolean alive = true;
        boolean everLoaded;
        /** Pool pages and tables together: which of them is which, nobody can see. */
        int pagesFed;

        Guest(int newNumber) {
            number = newNumber;
            for (int v = 0; v < PROCESSORS; v++) {
                processors[v] = new Processor();
            }
        }

        Page pageAtAddress(int address) {
            return places[address / WORDS];
        }

        void removePage(Page page) {
            for (int place = 0; place < PLACES; place++) {
                if (places[place] == page) {
                    places[place] = null;
                }
            }
        }

        int poolSize() {
            return pagesFed - countTables();
        }

        int countTables() {
            return countTablesOf(LARGE_TABLE) + countTablesOf(SMALL_TABLE);
        }

        int newTablesFor(int place) {
            int large = needsTable(place / LARGE_TABLE, LARGE_TABLE) ? 0 : 1;
            int small = needsTable(place / SMALL_TABLE, SMALL_TABLE) ? 0 : 1;
            return large + small;
        }

        /** Whether the sharing of the page there has changed; only a page of the guest's own can. */
        boolean changeSharingAt(int place, boolean nowShared) {
            Page page = places[place];
            if (page == null || page.ownerNumber != number || page.shared == nowShared) {
                return false;
            }
            page.changeSharing(nowShared);
            return true;
        }

        private int countTablesOf(int size) {
            int count = 0;
            for (int table = 0; table < PLACES / size; table++) {
                if (needsTable(table, size)) {
                    count++;
                }
            }
            return count;
        }

        private boolean needsTable(int table, int size) {
            for (int i = 0; i < size; i++) {
                if (places[table * size + i] != null) {
                    return true;
                }
            }
            return false;
        }
    }

    private static final class Processor {
        final int[] registers = new int[REGISTERS];
        int pc;
        int exitInfo;
        /** The register that the host's answer goes to, if the latest run ended behind an ASK. */
        int askingRegister = NO_REGISTER;

        void receiveAnswer(int answer) {
            if (askingRegister != NO_REGISTER) {
                registers[askingRegister] = answer;
                askingRegister = NO_REGISTER;
            }
        }

        int makeSteps(int n, Guest home) {
            exitInfo = 0;
            for (int i = 0; i < n; i++) {
                int exit = makeStep(home);
                if (exit != EXIT_STEPS_DONE) {
                    return exit;
                }
            }
            return EXIT_STEPS_DONE;
        }

        private int makeStep(Guest home) {
            Page page = home.pageAtAddress(pc);
            if (page == null) {
                return faultAt(pc);
            }
            return perform(page.words[pc % WORDS], home);
        }

        private int perform(int w, Guest home) {
            int op = w & 15;
            int a = w >> 4 & 3;
            int b = w >> 6 & 3;
            int i = w >> 8;
            int nextPc = pc + 1 & ADDRESS_MASK;
            int exit = EXIT_STEPS_DONE;
            switch (op) {
                case OP_STOP:
                    exit = EXIT_STOP;
                    break;
                case OP_SET:
                    registers[a] = i;
                    break;
                case OP_ADD:
                    registers[a] += registers[b];
                    break;
                case OP_LOAD:
                case OP_STORE:
                    exit = moveWord(op == OP_LOAD, a, registers[b] + i & ADDRESS_MASK, home);
                    break;
                case OP_JUMP:
                    nextPc = registers[a] != 0 ? i & ADDRESS_MASK : nextPc;
                    break;
                case OP_SHARE:
                case OP_UNSHARE:
                    registers[a] = home.changeSharingAt(registers[a] & PLACE_MASK, op == OP_SHARE) ? 1 : 0;
                    break;
                case OP_TELL:
                    exitInfo = registers[a];
                    exit = EXIT_TELL;
                    break;
                case OP_ASK:
                    askingRegister = a;
                    exit = EXIT_ASK;
                    break;
                case OP_XOR:
                    registers[a] ^= registers[b];
                    break;
                default:
                    exit = EXIT_BAD;
                    break;
            }
            // What was not done is tried again by the next run.
            if (exit != EXIT_FAULT && exit != EXIT_BAD) {
                pc = nextPc;
            }
            return exit;
        }

        private int moveWord(boolean intoRegister, int a, int at, Guest home) {
            Page page = home.pageAtAddress(at);
            if (page == null) {
                return faultAt(at);
            }
            if (intoRegister) {
                registers[a] = page.words[at % WORDS];
            } else {
                page.words[at % WORDS] = registers[a];
            }
            return EXIT_STEPS_DONE;
        }

        private int faultAt(int address) {
            exitInfo = address;
            return EXIT_FAULT;
        }
    }
}
