/** PART 4 of the document, the store: each sentence that names a boundary case, by itself. */
public final class SentencesPart4Test {
    private static final int NONE = Scenes.NONE;
    private static final int LEAST = Scenes.LEAST;
    private static final int MOST = Scenes.MOST;
    private static final int BEGIN = Scenes.BEGIN;
    private static final int READ = Scenes.READ;
    private static final int WRITE = Scenes.WRITE;
    private static final int COMMIT = Scenes.COMMIT;
    private static final int ABORT = Scenes.ABORT;
    private static final int STORE = 0;
    private static final int FIRST = 1;
    private static final int SECOND = 2;

    public static void main(String[] args) {
        epochAtFirst();
        doneAtFirst();
        recordsAtFirst();
        generationAtFirst();
        rowIsNoState();
        firstOfTheRow();
        droppedIfBeingDone();
        droppedIfInTheRow();
        droppedIfEight();
        droppedIfLower();
        sameIsRepliedAgain();
        replyToThePrimary();
        otherIncarnation();
        otherEpoch();
        transactionBackedOut();
        beginTwice();
        beginWithoutRoom();
        withoutATransaction();
        noSuchRecord();
        lockOfTheOther();
        lockIsTheTerminals();
        readGivesTheInt();
        writeWithoutRoom();
        writeSetsTheRecord();
        locksAreFree();
        otherKinds();
        toldThenWritten();
        intIsNothing();
        takesOverWriting();
        restartTakenOver();
        eachDiscForItself();
        doneWhenEachHasAll();
        doneAsSoonAsThatIsSo();
        withoutWritesAtOnce();
        restartWithoutAReply();
        allAtOnce();
        Checks.end("SentencesPart4Test");
    }

    private static void sentence(String words) {
        Checks.sentence("PART 4", words);
    }

    private static void due(String what, long got, long want) {
        Checks.due(what, got, want);
    }

    private static MirrorPairs begun() {
        MirrorPairs x = new MirrorPairs();
        Scenes.ask(x, 0, BEGIN, 0, 0);
        return x;
    }

    /** Terminal 0 is lost and restarts on 2, terminal 1 too; behind it they have no backups. */
    private static void restartTerminals(MirrorPairs x) {
        Checks.bounce(x, 2);
        x.tick();
    }

    private static void epochAtFirst() {
        sentence("The state: EPOCH (1 at first)");
        MirrorPairs x = new MirrorPairs();
        due("of the primary", x.pair(STORE, 7), 1);
        Scenes.flick(x, 0);
        due("of the backup", x.pair(STORE, 7), 1);
    }

    private static void doneAtFirst() {
        sentence("of each terminal the incarnation (0 at first), number (0), result and int of the latest request DONE");
        for (int t = 0; t < 2; t++) {
            MirrorPairs x = new MirrorPairs();
            due("number 1 of incarnation 0 is new, and fits", Scenes.ask(x, t, BEGIN, 0, 0), 0);
            due("it was begun", x.pair(STORE, 10), 1);
        }
    }

    private static void recordsAtFirst() {
        sentence("RECORDS 0 to 15, ints, 0 at first; who holds the LOCK of each");
        MirrorPairs x = new MirrorPairs();
        for (int k = 0; k < 16; k++) {
            due("int of " + k, x.record(k, 0), 0);
            due("lock of " + k, x.record(k, 1), NONE);
        }
        due("none below", x.record(-1, 0), Scenes.NO);
        due("none above", x.record(16, 0), Scenes.NO);
    }

    private static void generationAtFirst() {
        sentence("GENERATION (1 at first) and TRAIL");
        MirrorPairs x = new MirrorPairs();
        due("generation", x.pair(STORE, 8), 1);
        due("trail", x.pair(STORE, 9), 0);
    }

    private static void rowIsNoState() {
        sentence("stand in a row, which is no part of the state");
        MirrorPairs x = Scenes.writing(3, 30);
        Scenes.send(x, 1, BEGIN, 0, 0);
        x.arrive(3, 0, false);
        due("one stands there", x.pair(STORE, 6), 1);
        Scenes.flick(x, 0);
        due("none at what takes over", x.pair(STORE, 6), 0);
        due("it goes on with its state", x.pair(STORE, 3), 2);
    }

    private static void firstOfTheRow() {
        sentence("as soon as the primary does nothing the first of them is BEGUN");
        MirrorPairs x = Scenes.writing(3, 30);
        restartTerminals(x);
        x.request(1, BEGIN, 0, 0);
        x.request(0, BEGIN, 0, 0);
        Scenes.hop(x, 2, 0);
        Scenes.hop(x, 2, 0);
        due("two stand there", x.pair(STORE, 6), 2);
        Checks.writeAll(x);
        due("one is begun", x.pair(STORE, 6), 1);
        due("it is told", x.pair(STORE, 3), 1);
        Scenes.hop(x, 0, 1, 0);
        due("the next one is begun", x.pair(STORE, 6), 0);
        Scenes.hop(x, 0, 2);
        Scenes.hop(x, 0, 2);
        due("terminal 1 was first", x.pair(SECOND, 7), 0);
        due("terminal 0 was second", x.pair(FIRST, 7), 1);
        Scenes.hop(x, 0, 1, 0);
        Checks.writeAll(x);
        x.arrive(0, 2, false);
        due("it is done in its turn", x.pair(FIRST, 7), 0);
    }

    private static void droppedIfBeingDone() {
        sentence("A request that is taken is dropped if one with its terminal, incarnation and number is being done");
        MirrorPairs x = new MirrorPairs();
        Scenes.send(x, 0, BEGIN, 0, 0);
        x.arrive(2, 0, false);
        Scenes.end(x, 2);
        due("it is told", x.pair(STORE, 3), 1);
        due("taken", x.arrive(3, 0, false), 1);
        due("dropped", x.pair(STORE, 6), 0);
        Scenes.hop(x, 0, 1, 0);
        due("one reply", x.link(0, 3, 0), 1);
        MirrorPairs y = Scenes.writing(3, 30);
        Scenes.end(y, 2);
        due("it writes", y.pair(STORE, 3), 2);
        y.arrive(3, 0, false);
        due("dropped", y.pair(STORE, 6), 0);
        Checks.writeAll(y);
        due("one reply", y.link(0, 3, 0), 1);
        due("one entry", y.pair(STORE, 9), 1);
        MirrorPairs z = new MirrorPairs();
        Scenes.send(z, 0, BEGIN, 0, 0);
        Scenes.send(z, 1, BEGIN, 0, 0);
        z.arrive(2, 0, false);
        z.arrive(3, 0, false);
        due("the same number of the other terminal stays", z.pair(STORE, 6), 1);
        MirrorPairs w = new MirrorPairs();
        Scenes.send(w, 0, BEGIN, 0, 0);
        w.arrive(2, 0, false);
        restartTerminals(w);
        w.request(0, BEGIN, 0, 0);
        w.arrive(2, 0, false);
        due("the same number of another incarnation stays", w.pair(STORE, 6), 1);
    }

    private static void droppedIfInTheRow() {
        sentence("or stands in the row");
        MirrorPairs x = Scenes.writing(3, 30);
        Scenes.send(x, 1, BEGIN, 0, 0);
        x.arrive(3, 0, false);
        Scenes.end(x, 3);
        due("sent again", x.link(2, 0, 0), 1);
        due("taken", x.arrive(2, 0, false), 1);
        due("it stands there once", x.pair(STORE, 6), 1);
        restartTerminals(x);
        x.request(1, BEGIN, 0, 0);
        x.arrive(2, 0, false);
        due("another incarnation stands beside it", x.pair(STORE, 6), 2);
        x.request(0, BEGIN, 0, 0);
        x.arrive(2, 0, false);
        due("and the other terminal", x.pair(STORE, 6), 3);
        MirrorPairs y = sentTwice();
        Scenes.hop(y, 2, 0, 1, 0, 2, 3, 2);
        Scenes.send(y, 1, BEGIN, 0, 0);
        y.arrive(3, 0, false);
        Scenes.send(y, 0, BEGIN, 0, 0);
        y.arrive(2, 0, false);
        due("the first one again", y.pair(STORE, 6), 1);
        y.arrive(2, 0, false);
        due("another number stands beside it", y.pair(STORE, 6), 2);
    }

    /** The first request of terminal 0 is twice on its way to a store that restarted. */
    private static MirrorPairs sentTwice() {
        MirrorPairs x = new MirrorPairs();
        Checks.bounce(x, 0);
        x.tick();
        Scenes.send(x, 0, BEGIN, 0, 0);
        x.write(0);
        Scenes.hop(x, 0, 1, 0);
        due("twice", x.link(2, 0, 0), 2);
        return x;
    }

    private static void droppedIfEight() {
        sentence("or if eight stand there");
        MirrorPairs x = Scenes.writing(3, 30);
        for (int standing = 1; standing <= 9; standing++) {
            restartTerminals(x);
            x.request(0, BEGIN, 0, 0);
            due("taken", x.arrive(2, 0, false), 1);
            due("the row", x.pair(STORE, 6), Math.min(standing, 8));
        }
        Checks.writeAll(x);
        Scenes.hop(x, 0, 1, 0);
        Checks.writeAll(x);
        for (int k = 0; k < 7; k++) {
            Scenes.hop(x, 0, 1, 0);
        }
        due("all were done", x.pair(STORE, 3), 0);
        due("replies", x.link(0, 2, 0), 9);
        for (int k = 0; k < 9; k++) {
            x.arrive(0, 2, false);
        }
        due("to the ninth there is none", x.pair(FIRST, 7), 1);
        due("it waits", x.pair(FIRST, 3), 2);
    }

    private static void droppedIfLower() {
        sentence("dropped, if its incarnation is lower than that of the latest one done for its terminal, "
                + "or the same and its number lower");
        MirrorPairs x = begun();
        Scenes.ask(x, 0, READ, 0, 0);
        Forged.request(x, 2, 0, 0, 0, 1, 1, ABORT, 0, 0);
        due("the number is lower", x.arrive(2, 0, false), 1);
        due("nothing is begun", x.pair(STORE, 3), 0);
        due("nothing is replied", x.link(0, 2, 0), 0);
        restartTerminals(x);
        x.request(0, BEGIN, 0, 0);
        x.arrive(2, 0, false);
        Scenes.hop(x, 0, 1, 0);
        Checks.writeAll(x);
        x.arrive(0, 2, false);
        due("incarnation 1 is done", x.answer(0, 1), -9);
        Forged.request(x, 2, 0, 0, 0, 9, 1, BEGIN, 0, 0);
        due("the incarnation is lower", x.arrive(2, 0, false), 1);
        due("nothing is begun", x.pair(STORE, 3), 0);
        due("nothing is replied", x.link(0, 2, 0), 0);
    }

    private static void sameIsRepliedAgain() {
        sentence("if both are the same, the reply is sent again, to the terminal's primary [..] and that is all");
        MirrorPairs x = new MirrorPairs();
        Scenes.bring(x, 0, BEGIN, 0, 0);
        Scenes.end(x, 2);
        due("the first reply is gone", x.link(0, 2, 0), 0);
        x.arrive(3, 0, false);
        due("sent again to where the terminal is now", x.link(0, 3, 0), 1);
        due("nothing is told", x.pair(STORE, 4), 1);
        due("nothing is being done", x.pair(STORE, 3), 0);
        x.arrive(0, 3, false);
        due("it is not done twice", x.answer(0, 1), 0);
    }

    private static void replyToThePrimary() {
        sentence("(if there is one; so always)");
        MirrorPairs x = new MirrorPairs();
        Scenes.send(x, 0, BEGIN, 0, 0);
        x.arrive(2, 0, false);
        Checks.bounce(x, 2);
        due("the terminal is lost", x.pair(FIRST, 0), NONE);
        Scenes.hop(x, 0, 1, 0);
        due("the request is done", x.pair(STORE, 3), 0);
        due("no reply to 2", x.link(0, 2, 0), 0);
        due("no reply to 3", x.link(0, 3, 0), 0);
        MirrorPairs y = new MirrorPairs();
        Scenes.send(y, 0, BEGIN, 0, 0);
        y.arrive(2, 0, false);
        Scenes.end(y, 2);
        Scenes.hop(y, 0, 1, 0);
        due("to where the terminal is now", y.link(0, 3, 0), 1);
    }

    private static void otherIncarnation() {
        sentence("-9, if its incarnation is not that of the latest one done");
        MirrorPairs x = begun();
        Forged.request(x, 2, 0, 0, 1, 1, 1, BEGIN, 0, 0);
        Scenes.hop(x, 2, 0, 1, 0);
        due("with the store's epoch: backed out", x.pair(STORE, 10), 0);
        MirrorPairs y = new MirrorPairs();
        restartTerminals(y);
        y.request(0, 77, -1, 0);
        Scenes.hop(y, 2, 0, 1, 0, 2);
        due("before any other result", y.answer(0, 1), -9);
        Scenes.hop(y, 2, 3, 2, 3, 2, 3, 2);
        y.request(0, BEGIN, 0, 0);
        Scenes.hop(y, 2, 3, 2, 0, 1, 0, 2);
        due("the next one fits", y.pair(STORE, 10), 1);
    }

    private static void otherEpoch() {
        sentence("or its epoch not the store's");
        MirrorPairs x = begun();
        Forged.request(x, 2, 0, 0, 0, 2, 2, READ, 0, 0);
        Scenes.hop(x, 2, 0, 1, 0);
        due("with the incarnation: backed out", x.pair(STORE, 10), 0);
        MirrorPairs y = begun();
        Checks.bounce(y, 0);
        y.tick();
        y.write(0);
        Scenes.hop(y, 0, 1, 0);
        due("the store restarted", Scenes.ask(y, 0, BEGIN, 0, 0), -9);
        due("its epoch is told", y.answer(0, 3), 2);
        due("the next one fits", Scenes.ask(y, 0, BEGIN, 0, 0), 0);
    }

    private static void transactionBackedOut() {
        sentence("the terminal's transaction, if there is one, is BACKED OUT (its locks are free, it has none any more)");
        MirrorPairs x = begun();
        Scenes.ask(x, 1, BEGIN, 0, 0);
        Scenes.ask(x, 1, READ, 7, 0);
        Scenes.ask(x, 0, WRITE, 3, 30);
        Scenes.ask(x, 0, READ, 4, 0);
        restartTerminals(x);
        x.request(0, COMMIT, 0, 0);
        Scenes.hop(x, 2, 0, 1, 0);
        due("the record", x.write(0), 3);
        due("an entry", x.write(0), 18);
        due("of kind 3", x.disc(0, 18, 1), 3);
        due("one transaction is left", x.write(0), NONE);
        due("as before", x.record(3, 0), 0);
        due("its lock", x.record(3, 1), NONE);
        due("its other lock", x.record(4, 1), NONE);
        due("not that of the other one", x.record(7, 1), 1);
        due("transactions", x.pair(STORE, 10), 1);
        MirrorPairs y = new MirrorPairs();
        restartTerminals(y);
        y.request(0, BEGIN, 0, 0);
        Scenes.hop(y, 2, 0, 1, 0);
        due("there is none: nothing is written", y.pair(STORE, 3), 0);
        due("the generation stays", y.pair(STORE, 8), 1);
    }

    private static void beginTwice() {
        sentence("BEGIN (kind 0): -1 if the terminal has a transaction");
        MirrorPairs x = begun();
        due("again", Scenes.ask(x, 0, BEGIN, 0, 0), -1);
        due("it has it still", x.pair(STORE, 10), 1);
        due("the other terminal", Scenes.ask(x, 1, BEGIN, 0, 0), 0);
        due("both", x.pair(STORE, 10), 2);
        MirrorPairs y = Scenes.trail(31, 0);
        due("before the room is looked at", Scenes.askBare(y, 0, BEGIN, 0, 0), -1);
    }

    private static void beginWithoutRoom() {
        sentence("-4 if the trail has no room for one more; else it has one: 0");
        MirrorPairs x = Scenes.trail(31, 0);
        due("one block for two ends", Scenes.askBare(x, 1, BEGIN, 0, 0), -4);
        due("it has none", x.pair(STORE, 10), 1);
        due("without one still", Scenes.askBare(x, 1, COMMIT, 0, 0), -2);
        MirrorPairs y = Scenes.trail(30, 0);
        due("two blocks for two ends", Scenes.askBare(y, 1, BEGIN, 0, 0), 0);
        due("it has one", y.pair(STORE, 10), 2);
    }

    private static void withoutATransaction() {
        sentence("READ (1), WRITE (2), COMMIT (3), ABORT (4): -2 without a transaction");
        MirrorPairs x = Scenes.bare();
        for (int kind = READ; kind <= ABORT; kind++) {
            due("kind " + kind, Scenes.askBare(x, 0, kind, 0, 5), -2);
            due("before the record is looked at", Scenes.askBare(x, 0, kind, 16, 5), -2);
        }
        due("no lock", x.record(0, 1), NONE);
        due("no int", x.record(0, 0), 0);
        due("the generation stays", x.pair(STORE, 8), 1);
        Scenes.askBare(x, 1, BEGIN, 0, 0);
        due("that of the other one does not count", Scenes.askBare(x, 0, READ, 0, 0), -2);
    }

    private static void noSuchRecord() {
        sentence("READ and WRITE: -5 if there is no such record");
        MirrorPairs x = Scenes.bare();
        Scenes.askBare(x, 0, BEGIN, 0, 0);
        int[] wrong = {-1, 16, LEAST, MOST};
        for (int k : wrong) {
            due("READ " + k, Scenes.askBare(x, 0, READ, k, 0), -5);
            due("WRITE " + k, Scenes.askBare(x, 0, WRITE, k, 9), -5);
        }
        due("no entries", x.pair(STORE, 9), 0);
        for (int k = 0; k < 16; k += 15) {
            due("READ " + k, Scenes.askBare(x, 0, READ, k, 0), 0);
            due("WRITE " + k, Scenes.askBare(x, 0, WRITE, k, 9), 0);
        }
        due("COMMIT looks at none", Scenes.askBare(x, 0, COMMIT, 16, 0), 0);
    }

    private static void lockOfTheOther() {
        sentence("-3 if the other terminal holds its lock");
        MirrorPairs x = Scenes.bare();
        Scenes.askBare(x, 0, BEGIN, 0, 0);
        Scenes.askBare(x, 1, BEGIN, 0, 0);
        Scenes.askBare(x, 0, READ, 0, 0);
        Scenes.askBare(x, 1, WRITE, 15, 5);
        due("WRITE behind a READ", Scenes.askBare(x, 1, WRITE, 0, 1), -3);
        due("READ behind a READ", Scenes.askBare(x, 1, READ, 0, 0), -3);
        due("READ behind a WRITE", Scenes.askBare(x, 0, READ, 15, 0), -3);
        due("the lock stays", x.record(0, 1), 0);
        due("the lock stays", x.record(15, 1), 1);
        due("its own", Scenes.askBare(x, 0, WRITE, 0, 1), 0);
        MirrorPairs y = Scenes.trail(30, 0);
        Scenes.askBare(y, 1, BEGIN, 0, 0);
        due("before the room is looked at", Scenes.askBare(y, 1, WRITE, 0, 0), -3);
    }

    private static void lockIsTheTerminals() {
        sentence("else the lock is the terminal's");
        MirrorPairs x = Scenes.bare();
        Scenes.askBare(x, 1, BEGIN, 0, 0);
        Scenes.askBare(x, 1, READ, 5, 0);
        Scenes.askBare(x, 1, WRITE, 6, 0);
        due("by a READ", x.record(5, 1), 1);
        due("by a WRITE", x.record(6, 1), 1);
        due("no other", x.record(7, 1), NONE);
        MirrorPairs y = Scenes.trail(31, 0);
        due("no room", Scenes.askBare(y, 0, WRITE, 8, 1), -4);
        due("by a WRITE without room too", y.record(8, 1), 0);
    }

    private static void readGivesTheInt() {
        sentence("READ: 0, and the int of the record.");
        MirrorPairs x = Scenes.bare();
        Scenes.askBare(x, 0, BEGIN, 0, 0);
        int[] values = {0, -1, LEAST, MOST};
        for (int value : values) {
            Scenes.askBare(x, 0, WRITE, 2, value);
            due("read", Scenes.askBare(x, 0, READ, 2, 77), 0);
            due("the int", x.answer(0, 2), value);
        }
    }

    private static void writeWithoutRoom() {
        sentence("WRITE: -4 if the trail has no room");
        MirrorPairs x = Scenes.trail(31, 0);
        due("no room", Scenes.askBare(x, 0, WRITE, 0, 99), -4);
        due("the record stays", x.record(0, 0), 31);
        due("the trail stays", x.pair(STORE, 9), 31);
        due("a READ needs none", Scenes.askBare(x, 0, READ, 0, 0), 0);
        due("a COMMIT has its block", Scenes.askBare(x, 0, COMMIT, 0, 0), 0);
    }

    private static void writeSetsTheRecord() {
        sentence("else the record becomes the value: 0");
        MirrorPairs x = Scenes.bare();
        Scenes.askBare(x, 0, BEGIN, 0, 0);
        int[] values = {LEAST, MOST, 0};
        for (int value : values) {
            due("written", Scenes.askBare(x, 0, WRITE, 15, value), 0);
            due("in the store", x.record(15, 0), value);
            due("on the disc", x.disc(0, 15, 0), value);
        }
    }

    private static void locksAreFree() {
        sentence("COMMIT: 0, ABORT: 0, the transaction being backed out; both: all its locks are free, it has none any more.");
        for (int kind = COMMIT; kind <= ABORT; kind++) {
            MirrorPairs x = Scenes.bare();
            Scenes.askBare(x, 0, BEGIN, 0, 0);
            Scenes.askBare(x, 1, BEGIN, 0, 0);
            Scenes.askBare(x, 0, WRITE, 0, 7);
            Scenes.askBare(x, 0, READ, 15, 0);
            Scenes.askBare(x, 1, READ, 8, 0);
            due("the result", Scenes.askBare(x, 0, kind, 0, 0), 0);
            due("the record", x.record(0, 0), kind == COMMIT ? 7 : 0);
            due("a lock", x.record(0, 1), NONE);
            due("the other lock", x.record(15, 1), NONE);
            due("not that of the other one", x.record(8, 1), 1);
            due("transactions", x.pair(STORE, 10), 1);
            due("none any more", Scenes.askBare(x, 0, kind, 0, 0), -2);
        }
    }

    private static void otherKinds() {
        sentence("Other kinds: -5.");
        MirrorPairs x = Scenes.bare();
        int[] kinds = {-1, 5, LEAST, MOST};
        for (int kind : kinds) {
            due("without a transaction: kind " + kind, Scenes.askBare(x, 0, kind, 0, 0), -5);
        }
        Scenes.askBare(x, 0, BEGIN, 0, 0);
        for (int kind : kinds) {
            due("with one: kind " + kind, Scenes.askBare(x, 0, kind, 0, 0), -5);
        }
        due("it has it still", x.pair(STORE, 10), 1);
        due("no lock", x.record(0, 1), NONE);
    }

    private static void toldThenWritten() {
        sentence("The state with all that is what is told to the backup; then the WRITES are done; then the reply is sent.");
        MirrorPairs x = begun();
        Scenes.send(x, 0, WRITE, 3, 30);
        x.arrive(2, 0, false);
        due("told", x.link(0, 1, 1), 3);
        due("not written", x.write(0), NONE);
        Scenes.hop(x, 0, 1, 0);
        due("it writes", x.pair(STORE, 3), 2);
        due("not replied", x.link(0, 2, 0), 0);
        Checks.writeAll(x);
        due("replied", x.link(0, 2, 0), 1);
        Scenes.flick(x, 0);
        due("the record was told", x.record(3, 0), 30);
        due("the lock too", x.record(3, 1), 0);
        due("the entry too", x.pair(STORE, 9), 1);
    }

    private static void intIsNothing() {
        sentence("(The int told is 0 but for READ.)");
        MirrorPairs x = Scenes.bare();
        Scenes.askBare(x, 0, BEGIN, 0, 9);
        due("BEGIN", x.answer(0, 2), 0);
        Scenes.askBare(x, 0, WRITE, 2, 9);
        due("WRITE", x.answer(0, 2), 0);
        Scenes.askBare(x, 0, READ, 2, 0);
        due("READ", x.answer(0, 2), 9);
        Scenes.askBare(x, 0, READ, 16, 9);
        due("a READ that is refused", x.answer(0, 2), 0);
        Scenes.askBare(x, 1, BEGIN, 0, 0);
        Scenes.askBare(x, 1, READ, 2, 0);
        due("a READ of a record that is locked", x.answer(1, 2), 0);
        Scenes.askBare(x, 0, COMMIT, 2, 9);
        due("COMMIT", x.answer(0, 2), 0);
    }

    private static void takesOverWriting() {
        sentence("What takes over, if a request is being done by its state, does its writes all anew, and replies; then it goes on.");
        MirrorPairs x = Scenes.writing(3, 30);
        x.write(0);
        x.write(0);
        x.write(1);
        Scenes.end(x, 0);
        due("all writes", x.pair(STORE, 5), 2);
        int[] blocks = {17, 3};
        for (int block : blocks) {
            due("no reply yet", x.link(1, 2, 0), 0);
            due("disc 0", x.write(0), block);
            due("disc 1", x.write(1), block);
        }
        due("a reply", x.link(1, 2, 0), 1);
        due("it goes on", x.pair(STORE, 3), 0);
        MirrorPairs y = begun();
        Scenes.end(y, 0);
        due("without writes it replies at once", y.link(1, 2, 0), 1);
        MirrorPairs z = new MirrorPairs();
        Scenes.end(z, 0);
        due("none is being done", z.pair(STORE, 3), 0);
        due("no reply", z.link(1, 2, 0), 0);
        MirrorPairs v = new MirrorPairs();
        Scenes.send(v, 0, BEGIN, 0, 0);
        v.arrive(2, 0, false);
        Scenes.end(v, 0);
        due("none by its state: it waits for no word", v.pair(STORE, 3), 0);
        due("none by its state: no reply", v.link(1, 2, 0), 0);
        MirrorPairs w = Scenes.writing(3, 30);
        Checks.writeAll(w);
        Scenes.flick(w, 1);
        Scenes.hop(w, 0, 1, 0);
        Scenes.end(w, 0);
        due("done before the copy: no writes", w.pair(STORE, 3), 0);
        due("done before the copy: no reply", w.link(1, 2, 0), 0);
    }

    private static void restartTakenOver() {
        sentence("(A restart's writes likewise, without a reply; the terminals have sent at the taking over.)");
        MirrorPairs x = begun();
        Checks.bounce(x, 0);
        Scenes.send(x, 0, READ, 0, 0);
        x.tick();
        Scenes.hop(x, 0, 1, 0);
        Scenes.end(x, 0);
        due("sent at the taking over", x.link(2, 1, 0), 1);
        due("its writes", x.pair(STORE, 5), 1);
        due("block 16", x.write(0), 16);
        due("it does nothing", x.pair(STORE, 3), 0);
        due("not sent once more", x.link(2, 1, 0), 1);
        due("no reply", x.link(1, 2, 0), 0);
    }

    private static void eachDiscForItself() {
        sentence("WRITES go, in their order, to each disc that is up and current, each disc for itself.");
        MirrorPairs x = Scenes.writing(3, 30);
        due("disc 1: the entry", x.write(1), 17);
        due("disc 1: the record", x.write(1), 3);
        due("disc 1: no more", x.write(1), NONE);
        due("disc 0 has none", x.disc(0, 17, 0), 0);
        due("disc 0: the entry", x.write(0), 17);
        due("disc 0: the record", x.write(0), 3);
        MirrorPairs y = Scenes.writing(3, 30);
        y.fail(2, 0);
        due("one that is down", y.write(0), NONE);
        y.repair(2, 0);
        due("one that is not current", y.write(0), NONE);
        due("the other one", y.write(1), 17);
    }

    private static void doneWhenEachHasAll() {
        sentence("when each such disc has all (and there is one)");
        MirrorPairs x = Scenes.writing(3, 30);
        x.write(0);
        x.write(0);
        x.write(1);
        due("one lacks one", x.pair(STORE, 3), 2);
        x.write(1);
        due("each has all", x.pair(STORE, 3), 0);
        MirrorPairs y = Scenes.writing(3, 30);
        y.write(0);
        y.fail(2, 1);
        y.fail(2, 0);
        due("there is none", y.pair(STORE, 3), 2);
        y.repair(2, 0);
        due("there is one, which lacks one", y.pair(STORE, 3), 2);
        due("it goes on where it was", y.write(0), 3);
        due("it has all", y.pair(STORE, 3), 0);
    }

    private static void doneAsSoonAsThatIsSo() {
        sentence("They are done, as soon as that is so");
        for (int slow = 0; slow < 2; slow++) {
            MirrorPairs x = Scenes.writing(3, 30);
            x.write(1 - slow);
            x.write(1 - slow);
            due("one lacks all", x.pair(STORE, 3), 2);
            x.fail(2, slow);
            due("it is gone", x.pair(STORE, 3), 0);
            due("replied", x.link(0, 2, 0), 1);
        }
    }

    private static void withoutWritesAtOnce() {
        sentence("without writes at once");
        MirrorPairs x = new MirrorPairs();
        x.fail(2, 0);
        x.fail(2, 1);
        due("without a disc", Scenes.ask(x, 0, BEGIN, 0, 0), 0);
        due("a READ too", Scenes.ask(x, 0, READ, 0, 0), 0);
        Scenes.bring(x, 0, COMMIT, 0, 0);
        due("not what has writes", x.pair(STORE, 3), 2);
    }

    private static void restartWithoutAReply() {
        sentence("RESTARTING is such writes without a request and a reply.");
        MirrorPairs x = begun();
        Checks.bounce(x, 0);
        x.tick();
        due("it writes", x.pair(STORE, 3), 2);
        due("one write", x.pair(STORE, 5), 1);
        due("block 16", x.write(0), 16);
        due("done", x.pair(STORE, 3), 0);
        due("no reply to 2", x.link(0, 2, 0), 0);
        due("no reply to 3", x.link(0, 3, 0), 0);
    }

    private static void allAtOnce() {
        sentence("(A call that brings something about does all that follows of it at once: what is told, sent, begun, done.)");
        MirrorPairs x = Scenes.bare();
        Scenes.askBare(x, 0, BEGIN, 0, 0);
        x.request(0, WRITE, 1, 1);
        x.arrive(2, 0, false);
        for (int k = 1; k <= 4; k++) {
            x.fail(0, 2);
            Checks.ticks(x, 5);
            x.repair(0, 2);
            x.tick();
            x.request(0, BEGIN, 0, 0);
            x.request(1, BEGIN, 0, 0);
            Scenes.hop(x, 2, 0);
            Scenes.hop(x, 2, 0);
        }
        due("eight stand in the row", x.pair(STORE, 6), 8);
        due("one write", x.write(0), 17);
        due("not done", x.pair(STORE, 6), 8);
        due("the last write", x.write(0), 1);
        int[] blocks = {1, 18, 16};
        for (int block : blocks) {
            due("the first is begun, and has writes", x.pair(STORE, 6), 7);
            due("a write", x.write(0), block);
        }
        due("all others are done at once", x.pair(STORE, 6), 0);
        due("all are replied to", x.link(0, 2, 0), 9);
    }
}
