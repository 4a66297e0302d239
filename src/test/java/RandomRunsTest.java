import java.util.Random;

/** Runs of random calls, always the same ones: what must hold behind every call, whatever came before. */
public final class RandomRunsTest {
    private static final int NONE = MirrorPairs.NONE;
    private static final int RUNS = 1500;
    private static final int CALLS = 400;

    public static void main(String[] args) {
        for (int seed = 1; seed <= RUNS; seed++) {
            Random random = new Random(seed);
            MirrorPairs x = new MirrorPairs();
            int trouble = seed % 5;
            for (int k = 0; k < CALLS; k++) {
                call(x, random, trouble);
                always(x, seed, k);
            }
            recovers(x, seed);
        }
        wildArguments();
        Checks.end("RandomRunsTest");
    }

    private static void call(MirrorPairs x, Random random, int trouble) {
        int choice = random.nextInt(100);
        int from = random.nextInt(4);
        int to = (from + 1 + random.nextInt(3)) % 4;
        if (choice < 14) {
            x.request(random.nextInt(2), random.nextInt(6), random.nextInt(5), random.nextInt(9));
        } else if (choice < 55) {
            x.arrive(from, to, random.nextInt(10) == 0);
        } else if (choice < 58) {
            x.lose(from, to);
        } else if (choice < 76) {
            x.write(random.nextInt(2));
        } else if (choice < 85) {
            x.copy();
        } else if (choice < 91) {
            x.tick();
        } else if (choice < 91 + trouble) {
            int what = random.nextInt(3);
            x.fail(what, random.nextInt(what == 0 ? 4 : 2));
        } else {
            int what = random.nextInt(3);
            x.repair(what, random.nextInt(what == 0 ? 4 : 2));
        }
    }

    private static void always(MirrorPairs x, int seed, int k) {
        String where = "run " + seed + ", call " + k + ": ";
        for (int p = 0; p < 3; p++) {
            pairHolds(x, where, p);
        }
        for (int from = 0; from < 4; from++) {
            for (int to = 0; to < 4; to++) {
                if (from != to) {
                    linkHolds(x, where, from, to);
                }
            }
        }
        if (x.part(21, 0) == 0 && x.part(21, 1) == 0) {
            Checks.due(where + "no disc is current", 0, 1);
        }
        int store = x.pair(0, 0);
        if (store != NONE && x.part(0, store) == 1) {
            storeHolds(x, where);
        }
    }

    private static void pairHolds(MirrorPairs x, String where, int p) {
        int primary = x.pair(p, 0);
        boolean works = primary != NONE && x.part(0, primary) == 1;
        boolean backup = x.pair(p, 1) != NONE;
        boolean coming = x.pair(p, 2) == 1;
        boolean fine = !(backup && coming) && (primary != NONE || !backup && !coming)
                && (!works || x.pair(p, 3) != 1 || backup)
                && (primary == NONE || primary / 2 == (p == 0 ? 0 : 1))
                && (!backup || x.pair(p, 1) == (primary ^ 1));
        if (!fine) {
            Checks.due(where + "pair " + p, 0, 1);
        }
    }

    private static void linkHolds(MirrorPairs x, String where, int from, int to) {
        int count = x.link(from, to, 0);
        boolean up = x.part(0, from) == 1 && x.part(0, to) == 1;
        int bus = x.link(from, to, 2);
        boolean fine = count >= 0 && (up || count == 0 && x.link(from, to, 4) == 0)
                && (bus == NONE || x.part(10, bus) == 1)
                && (count == 0 || x.link(from, to, 3) >= x.link(from, to, 4));
        if (!fine) {
            Checks.due(where + "link " + from + " to " + to, 0, 1);
        }
    }

    private static void storeHolds(MirrorPairs x, String where) {
        int entries = x.pair(0, 9);
        int transactions = x.pair(0, 10);
        boolean fine = entries + transactions <= 32 && (transactions > 0 || entries == 0)
                && x.pair(0, 6) <= 8 && (x.pair(0, 3) != 0 || x.pair(0, 6) == 0);
        if (!fine) {
            Checks.due(where + "store", 0, 1);
        }
        if (x.pair(0, 3) != 0) {
            return;
        }
        for (int d = 0; d < 2; d++) {
            if (x.part(20, d) == 1 && x.part(21, d) == 1) {
                discIsAsState(x, where, d);
            }
        }
    }

    /** A store that does nothing has all that it knows on each disc that is up and current. */
    private static void discIsAsState(MirrorPairs x, String where, int d) {
        for (int k = 0; k < 16; k++) {
            if (x.record(k, 0) != x.disc(d, k, 0)) {
                Checks.due(where + "record " + k + " on disc " + d, x.disc(d, k, 0), x.record(k, 0));
            }
        }
        int entries = 0;
        while (entries < 32 && x.disc(d, 17 + entries, 0) == x.pair(0, 8)) {
            entries++;
        }
        boolean fine = x.disc(d, 16, 0) == x.pair(0, 8) && x.disc(d, 16, 1) == x.pair(0, 7)
                && entries == x.pair(0, 9);
        if (!fine) {
            Checks.due(where + "head and trail on disc " + d, 0, 1);
        }
    }

    private static void recovers(MirrorPairs x, int seed) {
        for (int what = 0; what < 3; what++) {
            for (int k = 0; k < 4; k++) {
                x.repair(what, k);
            }
        }
        for (int round = 0; round < 40; round++) {
            Checks.settle(x);
            for (int block = 0; block < 49; block++) {
                x.copy();
            }
            x.tick();
        }
        String where = "run " + seed + ", all repaired: ";
        for (int p = 0; p < 3; p++) {
            Checks.due(where + "pair " + p + " does", x.pair(p, 3), 0);
            Checks.due(where + "pair " + p + " has a backup", x.pair(p, 1) != NONE, true);
            if (p > 0) {
                Checks.due(where + "open", x.pair(p, 7), 0);
                Checks.due(where + "shown", x.answer(p - 1, 0), x.pair(p, 6) == 0 ? NONE : x.pair(p, 6));
            }
        }
        for (int block = 0; block < 49; block++) {
            for (int word = 0; word < 5; word++) {
                Checks.due(where + "disc 1 is as disc 0", x.disc(1, block, word), x.disc(0, block, word));
            }
        }
        always(x, seed, CALLS);
    }

    private static void wildArguments() {
        Random random = new Random(7);
        int[] some = {Integer.MIN_VALUE, -2, -1, 0, 1, 2, 3, 4, 5, 16, 17, 48, 49, Integer.MAX_VALUE};
        for (int run = 0; run < 200; run++) {
            MirrorPairs x = new MirrorPairs();
            for (int k = 0; k < 512; k++) {
                int a = some[random.nextInt(some.length)];
                int b = some[random.nextInt(some.length)];
                int c = some[random.nextInt(some.length)];
                wildCall(x, random.nextInt(14), a, b, c);
                call(x, random, 3);
            }
        }
    }

    private static void wildCall(MirrorPairs x, int which, int a, int b, int c) {
        switch (which) {
            case 0 -> x.request(a, b, c, a);
            case 1 -> x.tick();
            case 2 -> x.arrive(a, b, c > 0);
            case 3 -> x.lose(a, b);
            case 4 -> x.write(a);
            case 5 -> x.copy();
            case 6 -> x.fail(a, b);
            case 7 -> x.repair(a, b);
            case 8 -> x.answer(a, b);
            case 9 -> x.pair(a, b);
            case 10 -> x.part(a, b);
            case 11 -> x.link(a, b, c);
            case 12 -> x.disc(a, b, c);
            default -> x.record(a, b);
        }
    }
}
