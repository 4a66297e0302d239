import java.util.ArrayList;
import java.util.List;

/** Systems that tests begin with, made with few calls: an object is good for 512. */
final class Scenes {
    static final int NONE = MirrorPairs.NONE;
    static final int NO = Integer.MIN_VALUE;
    static final int LEAST = Integer.MIN_VALUE;
    static final int MOST = Integer.MAX_VALUE;
    static final int BEGIN = 0;
    static final int READ = 1;
    static final int WRITE = 2;
    static final int COMMIT = 3;
    static final int ABORT = 4;

    private Scenes() {
    }

    /** One arrival from each processor of the path to the next one. */
    static void hop(MirrorPairs x, int... path) {
        for (int k = 0; k + 1 < path.length; k++) {
            x.arrive(path[k], path[k + 1], false);
        }
    }

    /** Asks at a terminal on its first processor, with its backup: the request is sent to the store. */
    static void send(MirrorPairs x, int terminal, int kind, int record, int value) {
        int home = 2 + terminal;
        x.request(terminal, kind, record, value);
        hop(x, home, 5 - home, home);
    }

    /** With all as at first: the store, on 0, has told its backup of the request, and writes or has replied. */
    static void bring(MirrorPairs x, int terminal, int kind, int record, int value) {
        send(x, terminal, kind, record, value);
        hop(x, 2 + terminal, 0, 1, 0);
    }

    /** With all as at first: asks, and gives the result that is shown in the end. */
    static int ask(MirrorPairs x, int terminal, int kind, int record, int value) {
        int home = 2 + terminal;
        bring(x, terminal, kind, record, value);
        Checks.writeAll(x);
        hop(x, 0, home, 5 - home, home);
        return x.answer(terminal, 1);
    }

    /** Terminal 0 has a transaction, and the store writes a record for it. */
    static MirrorPairs writing(int record, int value) {
        MirrorPairs x = new MirrorPairs();
        ask(x, 0, BEGIN, 0, 0);
        bring(x, 0, WRITE, record, value);
        return x;
    }

    /** Goes down, and is declared. */
    static void end(MirrorPairs x, int processor) {
        x.fail(0, processor);
        Checks.ticks(x, 5);
    }

    /** Goes down and is repaired at once: what was there is elsewhere, or lost. */
    static void flick(MirrorPairs x, int processor) {
        x.fail(0, processor);
        x.repair(0, processor);
    }

    /** The store on 0 and both terminals on 2, none with a backup, and disc 0 alone. */
    static MirrorPairs bare() {
        MirrorPairs x = new MirrorPairs();
        x.fail(0, 1);
        x.fail(0, 3);
        Checks.ticks(x, 5);
        x.fail(2, 1);
        return x;
    }

    /** In a bare system: asks, and gives the result. */
    static int askBare(MirrorPairs x, int terminal, int kind, int record, int value) {
        x.request(terminal, kind, record, value);
        x.arrive(2, 0, false);
        for (int k = 0; k < 100 && x.write(0) != NONE; k++) {
            continue;
        }
        x.arrive(0, 2, false);
        return x.answer(terminal, 1);
    }

    /** A bare system in which terminal 0 has a transaction with so many entries, all of one record. */
    static MirrorPairs trail(int entries, int record) {
        MirrorPairs x = bare();
        askBare(x, 0, BEGIN, 0, 0);
        for (int k = 1; k <= entries; k++) {
            askBare(x, 0, WRITE, record, k);
        }
        return x;
    }

    /** What the questions answer (of the trail the first two blocks): some 200 calls. */
    static List<Integer> look(MirrorPairs x) {
        List<Integer> seen = new ArrayList<>();
        for (int k = 0; k < 3; k++) {
            for (int what = 0; what < (k == 0 ? 11 : 9); what++) {
                seen.add(x.pair(k, what));
            }
        }
        for (int from = 0; from < 4; from++) {
            for (int to = 0; to < 4; to++) {
                for (int what = 0; from != to && what < 5; what++) {
                    seen.add(x.link(from, to, what));
                }
            }
        }
        lookAtParts(x, seen);
        for (int k = 0; k < 16; k++) {
            seen.add(x.record(k, 0));
            seen.add(x.record(k, 1));
        }
        for (int block = 0; block < 19; block++) {
            for (int word = 0; word < (block < 16 ? 1 : block == 16 ? 2 : 5); word++) {
                seen.add(x.disc(0, block, word));
                seen.add(x.disc(1, block, word));
            }
        }
        return seen;
    }

    private static void lookAtParts(MirrorPairs x, List<Integer> seen) {
        for (int k = 0; k < 4; k++) {
            for (int what = 0; what < 3; what++) {
                seen.add(x.part(what, k));
            }
        }
        int[] whats = {10, 20, 21, 22};
        for (int k = 0; k < 2; k++) {
            for (int what : whats) {
                seen.add(x.part(what, k));
            }
            for (int what = 0; what < 4; what++) {
                seen.add(x.answer(k, what));
            }
        }
        seen.add(x.part(30, 0));
    }
}
