import java.util.List;

/** The fifteen promises: each sentence that names a boundary case, by itself. */
public final class SentencesPromisesTest {
    private static final int NONE = Scenes.NONE;
    private static final int NO = Scenes.NO;
    private static final int LEAST = Scenes.LEAST;
    private static final int MOST = Scenes.MOST;
    private static final int BEGIN = Scenes.BEGIN;
    private static final int READ = Scenes.READ;
    private static final int WRITE = Scenes.WRITE;
    private static final int COMMIT = Scenes.COMMIT;
    private static final int STORE = 0;
    private static final int FIRST = 1;
    private static final int SECOND = 2;
    private static final int[] PARTS = {4, 2, 2};

    public static void main(String[] args) {
        calls();
        constants();
        newObject();
        request();
        tick();
        arrive();
        lose();
        write();
        copy();
        fail();
        repair();
        answer();
        pair();
        pairWithout();
        part();
        link();
        disc();
        record();
        Checks.end("SentencesPromisesTest");
    }

    private static void due(String what, long got, long want) {
        Checks.due(what, got, want);
    }

    private static void due(String what, boolean got, boolean want) {
        Checks.due(what, got, want);
    }

    private static void dueSame(String what, MirrorPairs x, List<Integer> before) {
        due(what + ": nothing changes", Scenes.look(x).equals(before), true);
    }

    private static void calls() {
        Checks.sentence("What it is", "An object is used for at most 512 calls after it has been made");
        MirrorPairs x = new MirrorPairs();
        for (int k = 1; k < 512; k++) {
            x.tick();
        }
        due("the 512th call", x.tick(), 512);
        MirrorPairs y = Scenes.bare();
        for (int k = 0; k < 62; k++) {
            y.request(0, BEGIN, 0, 0);
            Scenes.hop(y, 2, 0, 2);
            y.request(0, COMMIT, 0, 0);
            y.arrive(2, 0, false);
            y.write(0);
            y.write(0);
            y.arrive(0, 2, false);
        }
        due("call 505", y.answer(0, 0), 124);
        due("call 506", y.answer(0, 1), 0);
        due("call 507", y.pair(STORE, 8), 63);
        due("call 508", y.pair(STORE, 9), 0);
        due("call 509", y.pair(FIRST, 6), 124);
        due("call 510", y.disc(0, 16, 0), 63);
        due("call 511", y.link(2, 0, 4), 124);
        due("call 512", y.link(0, 2, 4), 124);
    }

    private static void constants() {
        Checks.sentence("Terms", "`NONE = -1`: There is none.");
        due("NONE", MirrorPairs.NONE, -1);
    }

    private static void newObject() {
        Checks.sentence("Promise 1", "All is up; nothing was asked.");
        MirrorPairs x = new MirrorPairs();
        int[] whats = {0, 10, 20};
        for (int k = 0; k < 4; k++) {
            for (int what = 0; what < 3; what++) {
                due("up", x.part(whats[what], k), k < PARTS[what] ? 1 : NONE);
            }
        }
        for (int k = FIRST; k <= SECOND; k++) {
            due("number", x.pair(k, 6), 0);
            due("open", x.pair(k, 7), 0);
            due("does", x.pair(k, 3), 0);
            due("answer", x.answer(k - 1, 0), NONE);
        }
        for (int from = 0; from < 4; from++) {
            for (int to = 0; to < 4; to++) {
                due("messages", x.link(from, to, 0), from == to ? NONE : 0);
            }
        }
        due("the store does nothing", x.pair(STORE, 3), 0);
        due("its row", x.pair(STORE, 6), 0);
        due("transactions", x.pair(STORE, 10), 0);
        MirrorPairs y = new MirrorPairs();
        x.request(0, BEGIN, 0, 0);
        x.fail(0, 3);
        due("objects share nothing", y.pair(FIRST, 6), 0);
        due("objects share nothing", y.part(0, 3), 1);
    }

    private static void request() {
        Checks.sentence("Promise 2", "asks (PART 3): the request's number.");
        MirrorPairs x = new MirrorPairs();
        due("the first", x.request(0, LEAST, MOST, LEAST), 1);
        due("each terminal has its own", x.request(1, MOST, LEAST, MOST), 1);
        Checks.sentence("Promise 2", "NONE: no such terminal");
        int[] wrong = {-1, 2, LEAST, MOST};
        x = new MirrorPairs();
        List<Integer> before = Scenes.look(x);
        for (int t : wrong) {
            due("terminal " + t, x.request(t, BEGIN, 0, 0), NONE);
        }
        dueSame("refused", x, before);
        Checks.sentence("Promise 2", "it is lost or its primary's processor down");
        x = new MirrorPairs();
        x.fail(0, 2);
        due("down", x.request(0, BEGIN, 0, 0), NONE);
        due("the other one is up", x.request(1, BEGIN, 0, 0), 1);
        x = new MirrorPairs();
        Checks.bounce(x, 2);
        before = Scenes.look(x);
        due("lost", x.request(0, BEGIN, 0, 0), NONE);
        dueSame("refused", x, before);
        requestWhileOpen();
    }

    private static void requestWhileOpen() {
        Checks.sentence("Promise 2", "one is open");
        MirrorPairs x = new MirrorPairs();
        Scenes.send(x, 0, BEGIN, 0, 0);
        due("it waits for a reply", x.pair(FIRST, 3), 2);
        List<Integer> before = Scenes.look(x);
        due("open", x.request(0, READ, 0, 0), NONE);
        dueSame("refused", x, before);
        Checks.sentence("Promise 2", "or it waits for a word");
        x = new MirrorPairs();
        Scenes.bring(x, 0, BEGIN, 0, 0);
        x.arrive(0, 2, false);
        due("none is open", x.pair(FIRST, 7), 0);
        before = Scenes.look(x);
        due("it waits", x.request(0, READ, 0, 0), NONE);
        dueSame("refused", x, before);
        Scenes.hop(x, 2, 3, 2);
        due("it waits no more", x.request(0, READ, 0, 0), 2);
    }

    private static void tick() {
        Checks.sentence("Promise 3", "TICK: its number.");
        MirrorPairs x = new MirrorPairs();
        for (int k = 1; k <= 3; k++) {
            due("number", x.tick(), k);
            due("the same as is told", x.part(30, 0), k);
        }
        due("another object has its own", new MirrorPairs().tick(), 1);
    }

    private static void arrive() {
        Checks.sentence("Promise 4", "1 it was taken (also when it has no business there)");
        MirrorPairs x = new MirrorPairs();
        x.request(0, BEGIN, 0, 0);
        due("taken", x.arrive(2, 3, false), 1);
        Forged.request(x, 3, 1, 1, 0, 1, 1, BEGIN, 0, 0);
        due("no business", x.arrive(3, 1, false), 1);
        due("taken latest", x.link(3, 1, 4), 1);
        due("it goes from the row", x.link(3, 1, 0), 0);
        Checks.sentence("Promise 4", "2 dropped as taken before");
        x = new MirrorPairs();
        x.request(0, BEGIN, 0, 0);
        x.arrive(2, 3, true);
        x.tick();
        due("dropped", x.arrive(2, 3, false), 2);
        Checks.sentence("Promise 4", "0 there is none on a bus");
        x = new MirrorPairs();
        due("the row is empty", x.arrive(2, 3, false), 0);
        due("the row is empty", x.arrive(2, 3, true), 0);
        x.request(0, BEGIN, 0, 0);
        x.lose(2, 3);
        List<Integer> before = Scenes.look(x);
        due("it waits", x.arrive(2, 3, false), 0);
        due("it waits", x.arrive(2, 3, true), 0);
        dueSame("none arrived", x, before);
        x.fail(0, 3);
        due("one end is down", x.arrive(2, 3, false), 0);
        Checks.sentence("Promise 4", "NONE: no such link.");
        int[] wrong = {-1, 4, LEAST, MOST};
        x = new MirrorPairs();
        for (int p : wrong) {
            due("from " + p, x.arrive(p, 0, false), NONE);
            due("to " + p, x.arrive(0, p, true), NONE);
            due("both " + p, x.arrive(p, p, false), NONE);
        }
        for (int p = 0; p < 4; p++) {
            due("to itself", x.arrive(p, p, false), NONE);
        }
    }

    private static void lose() {
        Checks.sentence("Promise 5", "gets lost on its way, if it is on a bus: true; it waits.");
        MirrorPairs x = new MirrorPairs();
        due("the row is empty", x.lose(2, 3), false);
        x.request(0, BEGIN, 0, 0);
        due("on a bus", x.lose(2, 3), true);
        due("it stays", x.link(2, 3, 0), 1);
        due("it waits", x.link(2, 3, 2), NONE);
        due("nothing is taken", x.link(2, 3, 4), 0);
        List<Integer> before = Scenes.look(x);
        due("not on a bus", x.lose(2, 3), false);
        int[] wrong = {-1, 4, LEAST, MOST};
        for (int p : wrong) {
            due("from " + p, x.lose(p, 3), false);
            due("to " + p, x.lose(2, p), false);
        }
        due("to itself", x.lose(2, 2), false);
        dueSame("refused", x, before);
        x = new MirrorPairs();
        x.request(0, BEGIN, 0, 0);
        x.arrive(2, 3, false);
        due("it has gone from the row", x.lose(2, 3), false);
        due("another one is there", x.link(3, 2, 0), 1);
        x.fail(0, 3);
        due("the link was emptied", x.lose(3, 2), false);
    }

    private static void write() {
        Checks.sentence("Promise 6", "The next of the writes goes to a disc: its block.");
        MirrorPairs x = Scenes.writing(15, 44);
        due("the first", x.write(1), 17);
        due("the last", x.write(1), 15);
        Checks.sentence("Promise 6", "NONE: there is none for it");
        due("it has all", x.write(1), NONE);
        due("the other one does not", x.write(0), 17);
        Checks.sentence("Promise 6", "the disc is not up and current");
        x = Scenes.writing(15, 44);
        x.fail(2, 0);
        List<Integer> before = Scenes.look(x);
        due("down", x.write(0), NONE);
        dueSame("refused", x, before);
        x.repair(2, 0);
        due("not current", x.write(0), NONE);
        int[] wrong = {-1, 2, LEAST, MOST};
        for (int d : wrong) {
            due("disc " + d, x.write(d), NONE);
        }
        Checks.sentence("Promise 6", "or the store does not write");
        due("it does nothing", new MirrorPairs().write(0), NONE);
        x = new MirrorPairs();
        Scenes.ask(x, 0, BEGIN, 0, 0);
        Scenes.send(x, 0, WRITE, 15, 44);
        x.arrive(2, 0, false);
        due("it waits for a word", x.write(0), NONE);
        x = Scenes.writing(15, 44);
        x.fail(0, 0);
        due("its processor is down", x.write(0), NONE);
        x.fail(0, 1);
        Checks.ticks(x, 5);
        due("it is lost", x.write(0), NONE);
    }

    private static void copy() {
        Checks.sentence("Promise 7", "The next block is copied to the disc that is revived: its number.");
        for (int d = 0; d < 2; d++) {
            MirrorPairs x = new MirrorPairs();
            x.fail(2, d);
            x.repair(2, d);
            for (int block = 0; block < 49; block++) {
                due("disc " + d, x.copy(), block);
            }
            due("current", x.part(21, d), 1);
        }
        MirrorPairs x = new MirrorPairs();
        Checks.bounce(x, 0);
        x.fail(2, 0);
        x.repair(2, 0);
        due("while the store is lost too", x.copy(), 0);
        Checks.sentence("Promise 7", "NONE: none is.");
        x = new MirrorPairs();
        due("both are current", x.copy(), NONE);
        x.fail(2, 1);
        List<Integer> before = Scenes.look(x);
        due("it is down", x.copy(), NONE);
        dueSame("refused", x, before);
        x.fail(2, 0);
        x.repair(2, 1);
        due("the current one is down", x.copy(), NONE);
    }

    private static void fail() {
        Checks.sentence("Promise 8", "A part goes down (what 0 a processor, 1 a bus, 2 a disc): true.");
        int[] whats = {0, 10, 20};
        for (int what = 0; what < 3; what++) {
            for (int k = 0; k < PARTS[what]; k++) {
                MirrorPairs x = new MirrorPairs();
                due("it was up", x.fail(what, k), true);
                due("it is down", x.part(whats[what], k), 0);
                due("another one is not", x.part(whats[what], k == 0 ? 1 : 0), 1);
            }
        }
        Checks.sentence("Promise 8", "False: there is none such");
        MirrorPairs x = new MirrorPairs();
        List<Integer> before = Scenes.look(x);
        for (int what = 0; what < 3; what++) {
            int[] wrong = {-1, PARTS[what], LEAST, MOST};
            for (int k : wrong) {
                due("what " + what + ", " + k, x.fail(what, k), false);
            }
        }
        int[] wrong = {-1, 3, LEAST, MOST};
        for (int what : wrong) {
            due("what " + what, x.fail(what, 0), false);
        }
        dueSame("refused", x, before);
        Checks.sentence("Promise 8", "or it is down");
        x = new MirrorPairs();
        x.fail(0, 3);
        x.fail(1, 1);
        x.fail(2, 0);
        Checks.ticks(x, 2);
        before = Scenes.look(x);
        due("a processor", x.fail(0, 3), false);
        due("a bus", x.fail(1, 1), false);
        due("a disc", x.fail(2, 0), false);
        dueSame("refused", x, before);
    }

    private static void repair() {
        Checks.sentence("Promise 9", "A part is repaired: true.");
        int[] whats = {0, 10, 20};
        for (int what = 0; what < 3; what++) {
            for (int k = 0; k < PARTS[what]; k++) {
                MirrorPairs x = new MirrorPairs();
                x.fail(what, k);
                due("it was down", x.repair(what, k), true);
                due("it is up", x.part(whats[what], k), 1);
            }
        }
        Checks.sentence("Promise 9", "False: there is none such");
        MirrorPairs x = new MirrorPairs();
        x.fail(0, 3);
        x.fail(1, 1);
        x.fail(2, 1);
        List<Integer> before = Scenes.look(x);
        for (int what = 0; what < 3; what++) {
            int[] wrong = {-1, PARTS[what], LEAST, MOST};
            for (int k : wrong) {
                due("what " + what + ", " + k, x.repair(what, k), false);
            }
        }
        int[] wrong = {-1, 3, LEAST, MOST};
        for (int what : wrong) {
            due("what " + what, x.repair(what, 1), false);
        }
        dueSame("refused", x, before);
        Checks.sentence("Promise 9", "or it is up");
        x = new MirrorPairs();
        x.fail(2, 1);
        x.repair(2, 1);
        x.copy();
        before = Scenes.look(x);
        due("a processor", x.repair(0, 0), false);
        due("a bus", x.repair(1, 1), false);
        due("a disc that is revived", x.repair(2, 1), false);
        dueSame("refused", x, before);
    }

    private static void answer() {
        Checks.sentence("Promise 10", "Of a terminal's answer that is shown: 0 its number, 1 the result, 2 the int, 3 the epoch.");
        MirrorPairs x = new MirrorPairs();
        Scenes.ask(x, 1, BEGIN, 0, 0);
        Scenes.ask(x, 1, WRITE, 0, MOST);
        Scenes.ask(x, 1, READ, 0, 0);
        int[] answered = {3, 0, MOST, 1};
        for (int what = 0; what < 4; what++) {
            due("what " + what, x.answer(1, what), answered[what]);
        }
        Checks.sentence("Promise 10", "NONE for others");
        int[] wrong = {-1, 4, LEAST, MOST};
        for (int k : wrong) {
            due("what " + k, x.answer(1, k), NONE);
            due("terminal " + k, x.answer(k, 0), NONE);
        }
        due("terminal 2", x.answer(2, 0), NONE);
        Checks.sentence("Promise 10", "without one");
        due("none was asked", x.answer(0, 0), NONE);
        Scenes.bring(x, 0, BEGIN, 0, 0);
        due("none has come", x.answer(0, 0), NONE);
        x.arrive(0, 2, false);
        due("none is shown", x.answer(0, 0), NONE);
        Scenes.hop(x, 2, 3, 2);
        due("one is", x.answer(0, 0), 1);
        Checks.sentence("Promise 10", "or while the terminal is lost or its primary's processor down");
        x.fail(0, 2);
        due("down", x.answer(0, 0), NONE);
        due("the other one", x.answer(1, 0), 3);
        Checks.ticks(x, 5);
        due("taken over", x.answer(0, 0), 1);
        Scenes.flick(x, 3);
        due("lost", x.answer(0, 0), NONE);
        due("lost", x.answer(1, 3), NONE);
    }

    private static void duePair(MirrorPairs x, String what, int k, int... facts) {
        for (int f = 0; f < facts.length; f++) {
            due(what + ": " + f, x.pair(k, f), facts[f]);
        }
    }

    private static void pair() {
        Checks.sentence("Promise 11", "0 the primary's processor (NONE: lost), 1 the backup's (NONE: none), 2 whether one is coming");
        MirrorPairs x = new MirrorPairs();
        duePair(x, "with a backup", STORE, 0, 1, 0);
        Scenes.flick(x, 1);
        duePair(x, "coming", STORE, 0, NONE, 1);
        Scenes.end(x, 1);
        duePair(x, "without", STORE, 0, NONE, 0);
        Scenes.flick(x, 0);
        duePair(x, "lost", STORE, NONE, NONE, 0);
        Checks.sentence("Promise 11", "3 what it does: 0 nothing, 1 it waits for a word, 2 it writes (store), or waits for a reply (terminal)");
        x = new MirrorPairs();
        Scenes.ask(x, 0, BEGIN, 0, 0);
        due("nothing", x.pair(FIRST, 3), 0);
        x.request(0, WRITE, 0, 1);
        due("a terminal waits for a word", x.pair(FIRST, 3), 1);
        Scenes.hop(x, 2, 3, 2);
        due("a terminal waits for a reply", x.pair(FIRST, 3), 2);
        due("nothing", x.pair(STORE, 3), 0);
        x.arrive(2, 0, false);
        due("the store waits for a word", x.pair(STORE, 3), 1);
        Scenes.hop(x, 0, 1, 0);
        due("the store writes", x.pair(STORE, 3), 2);
        Checks.sentence("Promise 11", "4 the number told latest (checkpoints and copies; it goes on over all)");
        x = new MirrorPairs();
        due("none", x.pair(FIRST, 4), 0);
        Scenes.ask(x, 0, BEGIN, 0, 0);
        due("two checkpoints", x.pair(FIRST, 4), 2);
        Scenes.flick(x, 2);
        due("over a taking over, and a copy", x.pair(FIRST, 4), 3);
        Checks.bounce(x, 2);
        due("lost", x.pair(FIRST, 4), 3);
        x.tick();
        due("over a restart, and a copy", x.pair(FIRST, 4), 4);
        x.fail(0, 2);
        due("down", x.pair(FIRST, 4), 4);
        pairOfTheStore();
    }

    private static void pairOfTheStore() {
        Checks.sentence("Promise 11", "5 writes that some disc that is up and current does not have (0 while it waits for a word)");
        MirrorPairs x = new MirrorPairs();
        due("it does nothing", x.pair(STORE, 5), 0);
        Scenes.ask(x, 0, BEGIN, 0, 0);
        Scenes.send(x, 0, WRITE, 0, 1);
        x.arrive(2, 0, false);
        due("it waits for a word", x.pair(STORE, 5), 0);
        Scenes.hop(x, 0, 1, 0);
        due("none has any", x.pair(STORE, 5), 2);
        x.write(0);
        due("disc 1 has none", x.pair(STORE, 5), 2);
        x.write(1);
        due("both have one", x.pair(STORE, 5), 1);
        x.fail(2, 1);
        x.write(0);
        due("done", x.pair(STORE, 5), 0);
        x = Scenes.writing(0, 1);
        x.write(0);
        x.fail(2, 1);
        due("the slow one is down", x.pair(STORE, 5), 1);
        x.repair(2, 1);
        due("the slow one is not current", x.pair(STORE, 5), 1);
        x.fail(2, 0);
        due("none is up and current", x.pair(STORE, 5), 0);
        Checks.sentence("Promise 11", "6 requests in the row, 7 epoch, 8 generation, 9 entries of the trail, 10 transactions");
        x = Scenes.writing(0, 1);
        Scenes.send(x, 1, BEGIN, 0, 0);
        x.arrive(3, 0, false);
        duePair(x, "the store", STORE, 0, 1, 0, 2, 2, 2, 1, 1, 1, 1, 1);
        Checks.sentence("Promise 11", "Of terminals: 5 incarnation, 6 the latest number, 7 whether it is open, 8 the epoch.");
        duePair(x, "terminal 0", FIRST, 2, 3, 0, 2, 3, 0, 2, 1, 1);
        Checks.bounce(x, 2);
        x.tick();
        duePair(x, "restarted", FIRST, 2, NONE, 1, 0, 4, 1, 0, 0, -1);
    }

    private static void pairWithout() {
        Checks.sentence("Promise 11", "NONE for others");
        MirrorPairs x = new MirrorPairs();
        int[] wrong = {-1, 3, LEAST, MOST};
        for (int k : wrong) {
            for (int what = -1; what < 12; what++) {
                due("pair " + k, x.pair(k, what), NONE);
            }
        }
        for (int k = 0; k < 3; k++) {
            int[] others = {-1, k == STORE ? 11 : 9, 12, LEAST, MOST};
            for (int what : others) {
                due("pair " + k + ", " + what, x.pair(k, what), NONE);
            }
        }
        due("a terminal has no row", x.pair(FIRST, 10), NONE);
        Checks.sentence("Promise 11", "while it is lost, or its primary's processor down, for all but 0, 1, 2, 4 and a terminal's 5");
        x = Scenes.writing(0, 1);
        x.fail(0, 0);
        x.fail(0, 2);
        duePair(x, "the store is down", STORE, 0, 1, 0, NONE, 2, NONE, NONE, NONE, NONE, NONE, NONE);
        duePair(x, "terminal 0 is down", FIRST, 2, 3, 0, NONE, 3, 0, NONE, NONE, NONE);
        due("terminal 1 is not", x.pair(SECOND, 3), 0);
        Checks.bounce(x, 2);
        x.tick();
        Checks.bounce(x, 0);
        Checks.bounce(x, 2);
        duePair(x, "the store is lost", STORE, NONE, NONE, 0, NONE, 2, NONE, NONE, NONE, NONE, NONE, NONE);
        duePair(x, "terminal 0 is lost", FIRST, NONE, NONE, 0, NONE, 4, 1, NONE, NONE, NONE);
    }

    private static void part() {
        Checks.sentence("Promise 12", "Of a processor: 0 up (1, 0), 1 declared, 2 silence. Of a bus: 10 up. Of a disc: 20 up, 21 current");
        MirrorPairs x = new MirrorPairs();
        Scenes.end(x, 3);
        int[] of0 = {1, 0, 0};
        int[] of3 = {0, 1, 5};
        for (int what = 0; what < 3; what++) {
            due("processor 0: " + what, x.part(what, 0), of0[what]);
            due("processor 3: " + what, x.part(what, 3), of3[what]);
        }
        x.fail(1, 0);
        due("bus 0", x.part(10, 0), 0);
        due("bus 1", x.part(10, 1), 1);
        x.fail(2, 0);
        due("disc 0 is down", x.part(20, 0), 0);
        due("disc 0 is not current", x.part(21, 0), 0);
        due("disc 1 is up", x.part(20, 1), 1);
        due("disc 1 is current", x.part(21, 1), 1);
        Checks.sentence("Promise 12", "22 the next block that is copied to it (NONE: it is not revived now)");
        due("down", x.part(22, 0), NONE);
        due("current", x.part(22, 1), NONE);
        x.repair(2, 0);
        due("revived", x.part(22, 0), 0);
        x.copy();
        due("the next one", x.part(22, 0), 1);
        x.fail(2, 1);
        due("the other one is down", x.part(22, 0), NONE);
        Checks.sentence("Promise 12", "30 the tick");
        due("five", x.part(30, 0), 5);
        due("of no part", x.part(30, MOST), 5);
        due("none yet", new MirrorPairs().part(30, 0), 0);
        Checks.sentence("Promise 12", "NONE for others.");
        int[] others = {-1, 3, 9, 11, 19, 23, 29, 31, LEAST, MOST};
        for (int what : others) {
            due("what " + what, x.part(what, 0), NONE);
        }
        int[] known = {0, 1, 2, 10, 20, 21, 22};
        for (int what : known) {
            int[] wrong = {-1, what < 3 ? 4 : 2, LEAST, MOST};
            for (int k : wrong) {
                due("what " + what + ", " + k, x.part(what, k), NONE);
            }
        }
    }

    private static void link() {
        Checks.sentence("Promise 13", "1 the first one's kind (1 request, 2 reply, 3 checkpoint, 4 copy, 5 word)");
        MirrorPairs x = new MirrorPairs();
        x.request(0, BEGIN, 0, 0);
        int[] path = {2, 3, 2, 0, 1, 0, 2};
        int[] kinds = {3, 5, 1, 3, 5, 2};
        for (int k = 0; k < kinds.length; k++) {
            due("from " + path[k] + " to " + path[k + 1], x.link(path[k], path[k + 1], 1), kinds[k]);
            due("one", x.link(path[k], path[k + 1], 0), 1);
            x.arrive(path[k], path[k + 1], false);
        }
        Scenes.flick(x, 1);
        due("from 0 to 1", x.link(0, 1, 1), 4);
        Checks.sentence("Promise 13", "2 the bus it is on (NONE: it waits), 3 its number, 4 the number taken latest");
        x = new MirrorPairs();
        x.request(0, BEGIN, 0, 0);
        due("bus 0", x.link(2, 3, 2), 0);
        due("number", x.link(2, 3, 3), 1);
        due("none taken", x.link(2, 3, 4), 0);
        x.arrive(2, 3, true);
        due("it waits", x.link(2, 3, 2), NONE);
        due("number", x.link(2, 3, 3), 1);
        due("taken", x.link(2, 3, 4), 1);
        x.tick();
        due("bus 1", x.link(2, 3, 2), 1);
        linkWithout(x);
    }

    private static void linkWithout(MirrorPairs x) {
        Checks.sentence("Promise 13", "NONE for others");
        int[] others = {-1, 5, LEAST, MOST};
        for (int what : others) {
            due("what " + what, x.link(2, 3, what), NONE);
        }
        Checks.sentence("Promise 13", "without a first one (1 to 3)");
        x.arrive(2, 3, false);
        int[] facts = {0, NONE, NONE, NONE, 1};
        for (int what = 0; what < 5; what++) {
            due("what " + what, x.link(2, 3, what), facts[what]);
        }
        Checks.sentence("Promise 13", "or no such link");
        int[] wrong = {-1, 4, LEAST, MOST};
        for (int what = 0; what < 5; what++) {
            for (int p : wrong) {
                due("from " + p, x.link(p, 0, what), NONE);
                due("to " + p, x.link(0, p, what), NONE);
            }
            for (int p = 0; p < 4; p++) {
                due("to itself", x.link(p, p, what), NONE);
            }
        }
    }

    private static void disc() {
        Checks.sentence("Promise 14", "of a block its words in the order told (from 0 on)");
        MirrorPairs x = Scenes.writing(15, LEAST + 1);
        Checks.writeAll(x);
        for (int d = 0; d < 2; d++) {
            due("the record", x.disc(d, 15, 0), LEAST + 1);
            due("generation", x.disc(d, 16, 0), 1);
            due("epoch", x.disc(d, 16, 1), 1);
            int[] entry = {1, 1, 0, 15, 0};
            for (int word = 0; word < 5; word++) {
                due("entry, word " + word, x.disc(d, 17, word), entry[word]);
            }
        }
        x.fail(2, 0);
        due("a disc that is down has its ints", x.disc(0, 15, 0), LEAST + 1);
        Checks.sentence("Promise 14", "Integer.MIN_VALUE when there is none such.");
        int[][] wrong = {
            {-1, 0, 0}, {2, 0, 0}, {LEAST, 0, 0}, {MOST, 0, 0},
            {0, -1, 0}, {1, 49, 0}, {0, LEAST, 0}, {1, MOST, 0},
            {0, 0, -1}, {0, 0, 1}, {1, 15, 1}, {0, 16, 2}, {1, 17, 5}, {0, 48, 5},
            {0, 16, -1}, {0, 48, -1}, {0, 48, LEAST}, {0, 48, MOST}};
        for (int[] a : wrong) {
            due("disc " + a[0] + ", block " + a[1] + ", word " + a[2], x.disc(a[0], a[1], a[2]), NO);
        }
    }

    private static void record() {
        Checks.sentence("Promise 15", "Of a record in the store's primary: 0 its int, 1 which terminal holds its lock (NONE).");
        MirrorPairs x = Scenes.writing(15, 44);
        due("int", x.record(15, 0), 44);
        due("lock", x.record(15, 1), 0);
        due("no lock", x.record(0, 1), NONE);
        due("not yet on a disc", x.disc(0, 15, 0), 0);
        Checks.sentence("Promise 15", "Integer.MIN_VALUE when there is none such");
        int[] wrong = {-1, 16, LEAST, MOST};
        for (int k : wrong) {
            due("record " + k, x.record(k, 0), NO);
            due("record " + k, x.record(k, 1), NO);
        }
        int[] others = {-1, 2, LEAST, MOST};
        for (int what : others) {
            due("what " + what, x.record(15, what), NO);
        }
        Checks.sentence("Promise 15", "or the store is lost or its primary's processor down");
        x.fail(0, 0);
        due("down", x.record(15, 0), NO);
        due("down", x.record(15, 1), NO);
        Checks.ticks(x, 5);
        due("taken over", x.record(15, 0), 44);
        Scenes.flick(x, 1);
        due("lost", x.record(15, 0), NO);
        due("lost", x.record(15, 1), NO);
    }
}
