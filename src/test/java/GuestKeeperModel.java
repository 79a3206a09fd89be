import java.util.ArrayList;
import java.util.List;
import java.util.Random;

/**
 * Long mixed runs of calls, checked against a second keeper that is written another way: it moves
 * page numbers between a pool and tables one by one, where the class only counts.
 */
public final class GuestKeeperModel {
    private static final int RUNS = 4000;
    private static final int CALLS = 512;
    private static final int MOST_PRINTED = 20;

    private static int wrong = 0;

    private GuestKeeperModel() {
    }

    public static void main(String[] args) {
        int[] exits = new int[6];
        for (int run = 0; run < RUNS; run++) {
            oneRun(run, exits);
        }
        for (int exit = 0; exit < exits.length; exit++) {
            if (exits[exit] < 5000) {
                wrong++;
                System.out.println("exit " + exit + " came only " + exits[exit] + " times: the runs test too little");
            }
        }
        System.out.println(wrong == 0 ? "all runs answer as the model" : wrong + " runs do not");
        if (wrong != 0) {
            System.exit(1);
        }
    }

    private static void oneRun(int run, int[] exits) {
        Caller caller = new Caller(run);
        for (int call = 0; call < CALLS; call++) {
            caller.callBoth(call);
            if (caller.name.equals("run") && caller.want >= 0) {
                exits[(int) caller.want]++;
            }
            if (caller.got != caller.want) {
                wrong++;
                if (wrong <= MOST_PRINTED) {
                    System.out.println("seed " + run + ", call " + call + ": " + caller.text + " answered "
                            + caller.got + ", the model " + caller.want);
                }
                return;
            }
        }
    }

    /** Makes calls with arguments that are mostly, not always, such as the call can use. */
    private static final class Caller {
        private static final String[] NAMES = {"read", "write", "faults", "create", "feed", "donate", "lend",
            "takeBack", "destroy", "reclaim", "load", "put", "run", "info", "set", "register", "owner", "state",
            "pool", "tables"};
        private static final int[] WEIGHTS = {8, 16, 3, 2, 10, 6, 16, 6, 1, 6, 12, 6, 30, 6, 2, 2, 3, 8, 3, 3};

        private final Random random;
        private final boolean wild;
        private final GuestKeeper x = new GuestKeeper();
        private final Model m = new Model();
        private String name = "";
        private String text = "";
        private long got;
        private long want;

        Caller(int seed) {
            random = new Random(seed);
            wild = seed % 4 == 0;
        }

        void callBoth(int call) {
            if (!wild && call < 50) {
                prepare(call);
                return;
            }
            name = NAMES[pick()];
            switch (name) {
                case "read": case "write": case "faults": touch(); break;
                case "create": case "feed": case "donate": case "lend": give(); break;
                case "takeBack": case "destroy": case "reclaim": take(); break;
                case "load": case "put": case "run": case "info": process(); break;
                default: look(); break;
            }
        }

        /** Without a guest that has a program to begin with, most runs would end at once. */
        private void prepare(int call) {
            int p = call % 10;
            int v = word();
            if (call < 40) {
                name = "write";
                both(x.write(p, call / 10, v), m.write(p, call / 10, v), p, call / 10, v);
            } else if (call == 40) {
                name = "create";
                both(x.create(23), m.create(23), 23);
            } else if (call < 45) {
                name = "feed";
                both(x.feed(1, 60 - call), m.feed(1, 60 - call), 1, 60 - call);
            } else {
                name = "donate";
                both(x.donate(1, p, p - 5), m.hand(1, p, p - 5, false), 1, p, p - 5);
            }
        }

        private void touch() {
            int p = odd(24);
            int k = odd(4);
            int v = word();
            switch (name) {
                case "read": both(x.read(p, k), m.read(p, k), p, k); break;
                case "write": both(x.write(p, k, v), m.write(p, k, v), p, k, v); break;
                default: both(x.faults(), m.faults); break;
            }
        }

        private void give() {
            int g = guest();
            int p = freePage();
            int place = place();
            switch (name) {
                case "create": both(x.create(p), m.create(p), p); break;
                case "feed": both(x.feed(g, p), m.feed(g, p), g, p); break;
                case "donate": both(x.donate(g, p, place), m.hand(g, p, place, false), g, p, place); break;
                default: both(x.lend(g, p, place), m.hand(g, p, place, true), g, p, place); break;
            }
        }

        private void take() {
            int g = guest();
            int p = odd(24);
            switch (name) {
                case "takeBack": both(x.takeBack(p), m.takeBack(p), p); break;
                case "destroy": both(x.destroy(g), m.destroy(g), g); break;
                default: both(x.reclaim(p), m.reclaim(p), p); break;
            }
        }

        private void process() {
            int g = guest();
            int v = odd(2);
            int n = random.nextInt(20) == 0 ? odd(66) : 1 + random.nextInt(8);
            int answer = random.nextBoolean() ? random.nextInt(64) : word();
            switch (name) {
                case "load": both(x.load(g, v), m.load(g, v), g, v); break;
                case "put": both(x.put(), m.put()); break;
                case "run": both(x.run(n, answer), m.run(n, answer), n, answer); break;
                default: both(x.info(), m.info); break;
            }
        }

        private void look() {
            int g = guest();
            int p = odd(24);
            int k = odd(4);
            int v = word();
            switch (name) {
                case "set": both(x.set(k, v), m.set(k, v), k, v); break;
                case "register": both(x.register(k), m.register(k), k); break;
                case "owner": both(x.owner(p), m.owner(p), p); break;
                case "state": both(x.state(p), m.state(p), p); break;
                case "pool": both(x.pool(g), m.living(g) ? m.pools.get(g).size() : -1, g); break;
                default: both(x.tables(g), m.living(g) ? m.tableCount(g) : -1, g); break;
            }
        }

        private void both(long answer, long due, int... arguments) {
            got = answer;
            want = due;
            StringBuilder call = new StringBuilder(name);
            for (int argument : arguments) {
                call.append(' ').append(argument);
            }
            text = call.toString();
        }

        private void both(boolean answer, boolean due, int... arguments) {
            both(answer ? 1 : 0, due ? 1 : 0, arguments);
        }

        private int pick() {
            int sum = 0;
            for (int weight : WEIGHTS) {
                sum += weight;
            }
            int left = random.nextInt(sum);
            int i = 0;
            while (left >= WEIGHTS[i]) {
                left -= WEIGHTS[i];
                i++;
            }
            return i;
        }

        private int odd(int bound) {
            switch (random.nextInt(40)) {
                case 0: return -1;
                case 1: return bound;
                case 2: return random.nextInt();
                default: return random.nextInt(bound);
            }
        }

        private int guest() {
            return m.made > 0 && random.nextInt(12) != 0 ? 1 + random.nextInt(m.made) : odd(8);
        }

        private int freePage() {
            int first = random.nextInt(24);
            for (int i = 0; i < 24 && !wild; i++) {
                int p = (first + i) % 24;
                if (m.free(p) && random.nextInt(10) != 0) {
                    return p;
                }
            }
            return odd(24);
        }

        private int place() {
            // Where a guest has just faulted it waits for a page.
            if (!wild && random.nextBoolean()) {
                return m.info >> 2 & 63;
            }
            int place = odd(64);
            return wild || random.nextInt(3) == 0 ? place : place & 3;
        }

        private int word() {
            if (random.nextInt(30) == 0) {
                return random.nextInt();
            }
            int i = random.nextInt(8) == 0 ? random.nextInt(600) - 300 : random.nextInt(20);
            int op = random.nextInt(20) == 0 ? random.nextInt(16) : 1 + random.nextInt(10);
            return i << 8 | random.nextInt(16) << 4 | op;
        }
    }

    /** The second keeper: a row of numbers for each thing, and lists of page numbers. */
    private static final class Model {
        private final int[] memory = new int[96];
        private final int[] owner = new int[24];
        private final boolean[] lent = new boolean[24];
        private final boolean[] shared = new boolean[24];
        private final boolean[] mapped = new boolean[24];
        private final int[] host = new int[4];
        /** Row 0 of what follows is no guest's. */
        private final int[] root = new int[7];
        private final List<List<Integer>> pools = new ArrayList<>();
        private final int[][] tables = new int[7][20];
        private final int[][] held = new int[7][64];
        private final boolean[] alive = new boolean[7];
        private final boolean[] started = new boolean[7];
        /** For processor v of guest g, row 2 g + v: r0 .. r3, PC, and 1 + the register of an open ASK. */
        private final int[][] processors = new int[14][6];
        private int made = 0;
        private int loaded = -1;
        private int faults = 0;
        private int info = 0;

        Model() {
            for (int g = 0; g < 7; g++) {
                pools.add(new ArrayList<>());
                java.util.Arrays.fill(tables[g], -1);
                java.util.Arrays.fill(held[g], -1);
            }
        }

        boolean page(int p) {
            return 0 <= p && p <= 23;
        }

        boolean free(int p) {
            return page(p) && owner[p] == 0 && !lent[p];
        }

        boolean living(int g) {
            return 1 <= g && g <= 6 && alive[g];
        }

        void wipe(int p) {
            for (int k = 0; k < 4; k++) {
                memory[4 * p + k] = 0;
            }
        }

        /** Brings what hangs together with the owners into line. */
        void settle() {
            for (int p = 0; p < 24; p++) {
                shared[p] = shared[p] && owner[p] >= 1 && owner[p] <= 6;
                mapped[p] = mapped[p] && (owner[p] == 0 || shared[p]);
            }
        }

        boolean touches(int p, int k) {
            if (!page(p) || k < 0 || k > 3) {
                return false;
            }
            boolean may = owner[p] == 0 || shared[p];
            if (!mapped[p]) {
                faults++;
            }
            mapped[p] = may;
            return may;
        }

        long read(int p, int k) {
            return touches(p, k) ? memory[4 * p + k] : 1099511627776L;
        }

        boolean write(int p, int k, int v) {
            boolean may = touches(p, k);
            if (may) {
                memory[4 * p + k] = v;
            }
            return may;
        }

        int create(int p) {
            if (!free(p)) {
                return -1;
            }
            if (made == 6) {
                return -2;
            }
            made++;
            alive[made] = true;
            root[made] = p;
            owner[p] = 7;
            wipe(p);
            settle();
            return made;
        }

        int feed(int g, int p) {
            if (!living(g)) {
                return -1;
            }
            if (!free(p)) {
                return -2;
            }
            owner[p] = 7;
            wipe(p);
            settle();
            pools.get(g).add(p);
            return pools.get(g).size();
        }

        int hand(int g, int p, int place, boolean lends) {
            if (!living(g)) {
                return -1;
            }
            if (!free(p)) {
                return -2;
            }
            if (place < 0 || place > 63 || held[g][place] != -1) {
                return -3;
            }
            int[] wanted = {place >> 4, 4 + (place >> 2)};
            int missing = 0;
            for (int table : wanted) {
                missing += tables[g][table] == -1 ? 1 : 0;
            }
            if (missing > pools.get(g).size()) {
                return -4;
            }
            for (int table : wanted) {
                if (tables[g][table] == -1) {
                    tables[g][table] = pools.get(g).remove(0);
                }
            }
            held[g][place] = p;
            lent[p] = lends;
            if (!lends) {
                owner[p] = g;
                if (started[g]) {
                    wipe(p);
                }
            }
            settle();
            return 0;
        }

        boolean takeBack(int p) {
            if (!page(p) || !lent[p]) {
                return false;
            }
            lent[p] = false;
            for (int g = 1; g <= 6; g++) {
                for (int place = 0; place < 64; place++) {
                    if (alive[g] && held[g][place] == p) {
                        held[g][place] = -1;
                        giveBackTables(g);
                    }
                }
            }
            return true;
        }

        void giveBackTables(int g) {
            boolean[] needed = new boolean[20];
            for (int place = 0; place < 64; place++) {
                if (held[g][place] != -1) {
                    needed[place >> 4] = true;
                    needed[4 + (place >> 2)] = true;
                }
            }
            for (int table = 0; table < 20; table++) {
                if (!needed[table] && tables[g][table] != -1) {
                    pools.get(g).add(tables[g][table]);
                    tables[g][table] = -1;
                }
            }
        }

        int tableCount(int g) {
            int count = 0;
            for (int table : tables[g]) {
                count += table == -1 ? 0 : 1;
            }
            return count;
        }

        boolean destroy(int g) {
            if (!living(g) || loaded / 2 == g) {
                return false;
            }
            alive[g] = false;
            owner[root[g]] = 8;
            for (int p : pools.get(g)) {
                owner[p] = 8;
            }
            for (int p : tables[g]) {
                if (p != -1) {
                    owner[p] = 8;
                }
            }
            for (int p : held[g]) {
                if (p != -1 && lent[p]) {
                    lent[p] = false;
                } else if (p != -1) {
                    owner[p] = 8;
                }
            }
            settle();
            return true;
        }

        boolean reclaim(int p) {
            if (!page(p) || owner[p] != 8) {
                return false;
            }
            owner[p] = 0;
            wipe(p);
            return true;
        }

        boolean load(int g, int v) {
            if (loaded != -1 || !living(g) || v != 0 && v != 1) {
                return false;
            }
            loaded = 2 * g + v;
            started[g] = true;
            return true;
        }

        boolean put() {
            boolean was = loaded != -1;
            loaded = -1;
            return was;
        }

        int run(int n, int answer) {
            if (loaded == -1 || n < 1 || n > 64) {
                return -1;
            }
            int[] c = processors[loaded];
            if (c[5] != 0) {
                c[c[5] - 1] = answer;
                c[5] = 0;
            }
            info = 0;
            int exit = 0;
            for (int left = n; left > 0 && exit == 0; left--) {
                exit = step(c, loaded / 2);
            }
            return exit;
        }

        /** The index in the memory of a guest's address, or -1. */
        int at(int g, int address) {
            int p = held[g][address / 4];
            return p == -1 ? -1 : 4 * p + address % 4;
        }

        int step(int[] c, int g) {
            int from = at(g, c[4]);
            if (from == -1) {
                info = c[4];
                return 1;
            }
            int w = memory[from];
            int op = Math.floorMod(w, 16);
            int a = Math.floorMod(w / 16 - (w < 0 && w % 16 != 0 ? 1 : 0), 4);
            int b = Math.floorMod(Math.floorDiv(w, 64), 4);
            int i = Math.floorDiv(w, 256);
            if (op > 10) {
                return 5;
            }
            if (op == 3 || op == 4) {
                int address = Math.floorMod((long) c[b] + i, 256);
                int there = at(g, address);
                if (there == -1) {
                    info = address;
                    return 1;
                }
                if (op == 3) {
                    c[a] = memory[there];
                } else {
                    memory[there] = c[a];
                }
            }
            c[4] = op == 5 && c[a] != 0 ? Math.floorMod(i, 256) : (c[4] + 1) % 256;
            if (op == 1) {
                c[a] = i;
            } else if (op == 2) {
                c[a] = (int) ((long) c[a] + c[b]);
            } else if (op == 6 || op == 7) {
                c[a] = share(g, Math.floorMod(c[a], 64), op == 6);
            } else if (op == 10) {
                c[a] = (c[a] | c[b]) & ~(c[a] & c[b]);
            } else if (op == 8) {
                info = c[a];
                return 2;
            } else if (op == 9) {
                c[5] = 1 + a;
                return 3;
            }
            return op == 0 ? 4 : 0;
        }

        int share(int g, int place, boolean on) {
            int p = held[g][place];
            if (p == -1 || owner[p] != g || shared[p] == on) {
                return 0;
            }
            shared[p] = on;
            settle();
            return 1;
        }

        boolean set(int k, int v) {
            if (k < 0 || k > 3 || loaded != -1) {
                return false;
            }
            host[k] = v;
            return true;
        }

        int register(int k) {
            return k < 0 || k > 3 || loaded != -1 ? 0 : host[k];
        }

        int owner(int p) {
            return page(p) ? owner[p] : -1;
        }

        int state(int p) {
            return page(p) ? (lent[p] || shared[p] ? 1 : 0) + (mapped[p] ? 2 : 0) : -1;
        }
    }
}
