import java.util.ArrayList;
import java.util.List;
import java.util.function.ToLongFunction;

/**
 * "A call that is refused changes nothing, but for host faults": each refused call is made on one of two
 * objects that are alike, and all that can be seen of them afterwards, to the guests' hidden words and
 * registers, must be alike still.
 */
public final class GuestKeeperRefusals extends Check {
    private GuestKeeperRefusals() {
    }

    public static void main(String[] args) {
        everythingIsSeen();
        for (Refusal refusal : whileLoaded()) {
            changesNothing(refusal, true);
        }
        for (Refusal refusal : whileNoneIsLoaded()) {
            changesNothing(refusal, false);
        }
        for (Refusal refusal : always()) {
            changesNothing(refusal, true);
            changesNothing(refusal, false);
        }
        end();
    }

    private record Refusal(String call, long answer, int hostFaults, ToLongFunction<GuestKeeper> made) {
    }

    private static void changesNothing(Refusal refusal, boolean loaded) {
        says("A call that is refused changes nothing, " + refusal.call + (loaded ? ", loaded" : ", none loaded"));
        GuestKeeper x = stage(loaded);
        due(refusal.call, refusal.made.applyAsLong(x), refusal.answer);
        List<Long> after = allThatCanBeSeen(x);
        List<Long> due = allThatCanBeSeen(stage(loaded));
        // The number of host faults is seen first.
        due("faults() after " + refusal.call, after.get(0), due.get(0) + refusal.hostFaults);
        for (int i = 1; i < due.size(); i++) {
            due("call " + i + " after " + refusal.call, after.get(i), due.get(i));
        }
    }

    /**
     * Guest 1: root 23, no pool, its own pages 0 (at 0) and 1 (at 63, shared, mapped), page 2 lent (at 1);
     * processor 0 waits for an answer. Guest 2 is dead, 17 and 18 are orphans. Guests 3 .. 6 were never
     * loaded, guest 3 has a pool of two. The host's page 3 is mapped and has words, 4 .. 10 are unused.
     */
    private static GuestKeeper stage(boolean loaded) {
        GuestKeeper x = withGuest(4);
        fill(x, 0, code(SET, 0, 0, 63), code(SHARE, 0, 0, 0), code(ASK, 1, 0, 0), code(TELL, 1, 0, 0));
        fill(x, 1, 11, 12, 13, 14);
        fill(x, 2, code(TELL, 0, 0, 0), code(TELL, 2, 0, 0), code(TELL, 3, 0, 0), 77);
        fill(x, 3, code(TELL, 0, 0, 0), code(TELL, 0, 0, 0), code(TELL, 0, 0, 0), code(TELL, 0, 0, 0));
        due("donate(1, 0, 0)", x.donate(1, 0, 0), 0);
        due("donate(1, 1, 63)", x.donate(1, 1, 63), 0);
        due("lend(1, 2, 1)", x.lend(1, 2, 1), 0);
        due("create(18)", x.create(18), 2);
        due("feed(2, 17)", x.feed(2, 17), 1);
        due("destroy(2)", x.destroy(2), true);
        for (int g = 3; g <= 6; g++) {
            due("create(" + (19 - g) + ")", x.create(19 - g), g);
        }
        due("feed(3, 11)", x.feed(3, 11), 1);
        due("feed(3, 12)", x.feed(3, 12), 2);
        for (int k = 0; k < 4; k++) {
            due("set(" + k + ", ..)", x.set(k, 5 + k), true);
        }
        due("load(1, 0)", x.load(1, 0), true);
        exitDue(x, 9, 0, 3, 0);
        due("read(1, 0)", x.read(1, 0), 11);
        if (!loaded) {
            due("put()", x.put(), true);
        }
        return x;
    }

    /** If the guests did not get so far as to show what they hide, the comparison would be worth little. */
    private static void everythingIsSeen() {
        says("What is seen of the two objects");
        GuestKeeper x = stage(true);
        allThatCanBeSeen(x);
        wordsDue(x, 0, code(SET, 0, 0, 63), code(SHARE, 0, 0, 0), code(ASK, 1, 0, 0), code(TELL, 1, 0, 0));
        wordsDue(x, 1, 11, 12, 13, 14);
        due("owner(3)", x.owner(3), 3);
        List<Long> told = new ArrayList<>();
        GuestKeeper y = stage(false);
        guestOneIsSeen(y, told);
        guestThreeIsSeen(y, told);
        long[] due = {1, 2, 40, 2, 1, 2, 0, 2, 0, 0, 1, 8, 0, 4, 1, 1, 0, 1, 2, 1, 1, 2, 1};
        for (int i = 0; i < due.length; i++) {
            due("call " + i, told.get(i), due[i]);
        }
    }

    private static List<Long> allThatCanBeSeen(GuestKeeper x) {
        List<Long> seen = new ArrayList<>();
        seen.add((long) x.faults());
        seen.add((long) x.info());
        for (int p = 0; p < 24; p++) {
            seen.add((long) x.owner(p));
            seen.add((long) x.state(p));
        }
        for (int g = 1; g <= 6; g++) {
            seen.add((long) x.pool(g));
            seen.add((long) x.tables(g));
        }
        for (int k = 0; k < 4; k++) {
            seen.add((long) x.register(k));
        }
        seen.add(x.put() ? 1L : 0L);
        for (int k = 0; k < 4; k++) {
            seen.add((long) x.register(k));
        }
        guestOneIsSeen(x, seen);
        guestThreeIsSeen(x, seen);
        for (int p = 0; p < 24; p++) {
            for (int k = 0; k < 4; k++) {
                seen.add(x.read(p, k));
            }
        }
        return seen;
    }

    /** It tells its registers, the first of them the answer, and shows page 0. */
    private static void guestOneIsSeen(GuestKeeper x, List<Long> seen) {
        seen.add(x.load(1, 0) ? 1L : 0L);
        for (int i = 0; i < 4; i++) {
            seen.add((long) x.run(1, 40 + i));
            seen.add((long) x.info());
        }
        x.write(2, 3, code(XOR, 0, 0, 0));
        seen.add((long) x.run(1, 0));
        seen.add((long) x.run(1, 0));
        seen.add((long) x.info());
        seen.add((long) x.lend(1, 5, 2));
        x.write(5, 0, code(SHARE, 0, 0, 0));
        seen.add((long) x.run(2, 0));
        seen.add((long) x.state(0));
        seen.add(x.put() ? 1L : 0L);
    }

    /** Page 3 is donated to it, so that its words tell whether it was ever loaded. */
    private static void guestThreeIsSeen(GuestKeeper x, List<Long> seen) {
        seen.add((long) x.donate(3, 3, 0));
        for (int v = 0; v < 2; v++) {
            seen.add(x.load(3, v) ? 1L : 0L);
            seen.add((long) x.run(1, 0));
            seen.add(x.put() ? 1L : 0L);
        }
    }

    private static List<Refusal> whileLoaded() {
        List<Refusal> all = new ArrayList<>();
        all.add(new Refusal("destroy(1)", 0, 0, x -> x.destroy(1) ? 1 : 0));
        for (int v = 0; v < 2; v++) {
            int processor = v;
            all.add(new Refusal("load(1, " + v + ")", 0, 0, x -> x.load(1, processor) ? 1 : 0));
            all.add(new Refusal("load(3, " + v + ")", 0, 0, x -> x.load(3, processor) ? 1 : 0));
        }
        for (int k = 0; k < 4; k++) {
            int register = k;
            all.add(new Refusal("set(" + k + ", 99)", 0, 0, x -> x.set(register, 99) ? 1 : 0));
        }
        return all;
    }

    private static List<Refusal> whileNoneIsLoaded() {
        List<Refusal> all = new ArrayList<>();
        all.add(new Refusal("put()", 0, 0, x -> x.put() ? 1 : 0));
        all.add(new Refusal("run(1, 9)", -1, 0, x -> x.run(1, 9)));
        all.add(new Refusal("run(64, 9)", -1, 0, x -> x.run(64, 9)));
        return all;
    }

    private static List<Refusal> always() {
        List<Refusal> all = new ArrayList<>();
        touches(all);
        gifts(all);
        placements(all);
        takings(all);
        others(all);
        return all;
    }

    private static void touches(List<Refusal> all) {
        int[] closed = {0, 14, 17, 18, 20, 23};
        for (int p : closed) {
            all.add(new Refusal("read(" + p + ", 0)", NOTHING, 1, x -> x.read(p, 0)));
            all.add(new Refusal("write(" + p + ", 3, 9)", 0, 1, x -> x.write(p, 3, 9) ? 1 : 0));
        }
        for (int p : NO_PAGES) {
            all.add(new Refusal("read(" + p + ", 0)", NOTHING, 0, x -> x.read(p, 0)));
            all.add(new Refusal("write(" + p + ", 3, 9)", 0, 0, x -> x.write(p, 3, 9) ? 1 : 0));
        }
        int[] kinds = {0, 1, 2, 3, 4, 23};
        for (int p : kinds) {
            for (int k : NOT_0_TO_3) {
                all.add(new Refusal("read(" + p + ", " + k + ")", NOTHING, 0, x -> x.read(p, k)));
                all.add(new Refusal("write(" + p + ", " + k + ", 9)", 0, 0, x -> x.write(p, k, 9) ? 1 : 0));
            }
        }
    }

    private static void gifts(List<Refusal> all) {
        int[] notFree = {0, 1, 2, 14, 17, 18, 20, 23, -1, 24};
        for (int p : notFree) {
            all.add(new Refusal("create(" + p + ")", -1, 0, x -> x.create(p)));
            all.add(new Refusal("feed(1, " + p + ")", -2, 0, x -> x.feed(1, p)));
        }
        int[] free = {3, 4};
        int[] none = {0, 2, 7, -1};
        for (int p : free) {
            all.add(new Refusal("create(" + p + ")", -2, 0, x -> x.create(p)));
            for (int g : none) {
                all.add(new Refusal("feed(" + g + ", " + p + ")", -1, 0, x -> x.feed(g, p)));
            }
        }
    }

    private static void placements(List<Refusal> all) {
        int[][] rows = {{2, 3, 2, -1}, {0, 3, 2, -1}, {7, 3, 2, -1}, {1, 0, 2, -2}, {1, 1, 2, -2}, {1, 2, 2, -2},
            {1, 17, 2, -2}, {1, 23, 2, -2}, {1, 20, 2, -2}, {1, 24, 2, -2}, {3, 2, 0, -2}, {1, 3, 0, -3}, {1, 3, 1, -3},
            {1, 3, 63, -3}, {1, 3, 64, -3}, {1, 3, -1, -3}, {1, 3, 4, -4}, {1, 3, 16, -4}, {1, 3, 59, -4},
            {4, 3, 0, -4}};
        for (int[] row : rows) {
            String call = "(" + row[0] + ", " + row[1] + ", " + row[2] + ")";
            all.add(new Refusal("donate" + call, row[3], 0, x -> x.donate(row[0], row[1], row[2])));
            all.add(new Refusal("lend" + call, row[3], 0, x -> x.lend(row[0], row[1], row[2])));
        }
    }

    private static void takings(List<Refusal> all) {
        int[] notLent = {0, 1, 3, 4, 14, 17, 18, 20, 23, -1, 24};
        for (int p : notLent) {
            all.add(new Refusal("takeBack(" + p + ")", 0, 0, x -> x.takeBack(p) ? 1 : 0));
        }
        int[] noOrphans = {0, 1, 2, 3, 4, 14, 20, 23, -1, 24};
        for (int p : noOrphans) {
            all.add(new Refusal("reclaim(" + p + ")", 0, 0, x -> x.reclaim(p) ? 1 : 0));
        }
        int[] none = {0, 2, 7, -1};
        for (int g : none) {
            all.add(new Refusal("destroy(" + g + ")", 0, 0, x -> x.destroy(g) ? 1 : 0));
        }
    }

    private static void others(List<Refusal> all) {
        int[][] loads = {{1, 2}, {1, -1}, {3, 2}, {3, -1}, {2, 0}, {0, 0}, {7, 1}};
        for (int[] row : loads) {
            all.add(new Refusal("load(" + row[0] + ", " + row[1] + ")", 0, 0, x -> x.load(row[0], row[1]) ? 1 : 0));
        }
        int[] steps = {0, -1, 65, MIN, MAX};
        for (int n : steps) {
            all.add(new Refusal("run(" + n + ", 9)", -1, 0, x -> x.run(n, 9)));
        }
        for (int k : NOT_0_TO_3) {
            all.add(new Refusal("set(" + k + ", 9)", 0, 0, x -> x.set(k, 9) ? 1 : 0));
        }
    }
}
