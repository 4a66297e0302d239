/** PART 5 of the document, discs and trail: each sentence that names a boundary case, by itself. */
public final class SentencesPart5Test {
    private static final int NONE = Scenes.NONE;
    private static final int NO = Scenes.NO;
    private static final int BEGIN = Scenes.BEGIN;
    private static final int READ = Scenes.READ;
    private static final int WRITE = Scenes.WRITE;
    private static final int COMMIT = Scenes.COMMIT;
    private static final int ABORT = Scenes.ABORT;
    private static final int STORE = 0;

    public static void main(String[] args) {
        blocks();
        headAtFirst();
        trailAtFirst();
        recordAndIntAreNothing();
        entries();
        fullTrail();
        roomOfBegin();
        roomOfWrite();
        writeIsTwo();
        commitIsOne();
        backingOutTheFirst();
        backingOutBehindTheLatest();
        backingOutInOrder();
        backingOutAnEntry();
        noTransactionLeft();
        currentAtFirst();
        currentNoMore();
        revivedWhile();
        copiedFromBlock0();
        writtenWhereCopied();
        currentWithBlock48();
        allWritesOfTheOther();
        revivingBeginsAnew();
        restartByTheLower();
        restartWhileReviving();
        restartAsThere();
        restartEpoch();
        restartForgets();
        restartBacksOut();
        restartWritesTheHead();
        Checks.end("SentencesPart5Test");
    }

    private static void sentence(String words) {
        Checks.sentence("PART 5", words);
    }

    private static void due(String what, long got, long want) {
        Checks.due(what, got, want);
    }

    private static void dueBlock(MirrorPairs x, String what, int d, int block, int... words) {
        for (int word = 0; word < words.length; word++) {
            due(what + ", word " + word, x.disc(d, block, word), words[word]);
        }
        due(what + ", no more words", x.disc(d, block, words.length), NO);
    }

    private static void dueWrites(MirrorPairs x, int d, int... blocks) {
        for (int block : blocks) {
            due("the next write", x.write(d), block);
        }
        due("no more writes", x.write(d), NONE);
    }

    private static void copies(MirrorPairs x, int count) {
        for (int k = 0; k < count; k++) {
            x.copy();
        }
    }

    /** Disc 1 went down and came up: it is revived. */
    private static MirrorPairs revived() {
        MirrorPairs x = new MirrorPairs();
        x.fail(2, 1);
        x.repair(2, 1);
        return x;
    }

    /** In a bare system, terminal 0: a request that the store now writes. */
    private static void bring(MirrorPairs x, int kind, int record, int value) {
        x.request(0, kind, record, value);
        x.arrive(2, 0, false);
    }

    /** The store of a bare system is lost; it restarts on 0. */
    private static void restartBare(MirrorPairs x) {
        Scenes.flick(x, 0);
        x.tick();
    }

    private static void blocks() {
        sentence("DISCS have BLOCKS 0 to 48, of ints: block k below 16: record k");
        MirrorPairs x = new MirrorPairs();
        for (int block = 0; block < 16; block++) {
            dueBlock(x, "block " + block, 0, block, 0);
            dueBlock(x, "block " + block, 1, block, 0);
        }
        due("none below", x.disc(0, -1, 0), NO);
        due("the last one", x.disc(0, 48, 0), 0);
        due("none above", x.disc(0, 49, 0), NO);
        MirrorPairs y = Scenes.bare();
        Scenes.askBare(y, 0, BEGIN, 0, 0);
        for (int k = 0; k < 16; k++) {
            Scenes.askBare(y, 0, WRITE, k, 100 + k);
        }
        for (int k = 0; k < 16; k++) {
            dueBlock(y, "record " + k, 0, k, 100 + k);
        }
    }

    private static void headAtFirst() {
        sentence("block 16: generation, epoch (1, 1 at first)");
        MirrorPairs x = new MirrorPairs();
        dueBlock(x, "disc 0", 0, 16, 1, 1);
        dueBlock(x, "disc 1", 1, 16, 1, 1);
    }

    private static void trailAtFirst() {
        sentence("blocks 17 to 48, THE TRAIL: generation, kind (1 a write, 2 a commit, 3 a backing out), terminal, "
                + "record, and the int that was there before (all 0 at first");
        MirrorPairs x = new MirrorPairs();
        for (int block = 17; block < 49; block++) {
            dueBlock(x, "disc 0, block " + block, 0, block, 0, 0, 0, 0, 0);
        }
        dueBlock(x, "disc 1, block 48", 1, 48, 0, 0, 0, 0, 0);
        MirrorPairs y = Scenes.bare();
        Scenes.askBare(y, 1, BEGIN, 0, 0);
        Scenes.askBare(y, 1, WRITE, 15, 77);
        Scenes.askBare(y, 1, WRITE, 15, 78);
        dueBlock(y, "the first write", 0, 17, 1, 1, 1, 15, 0);
        dueBlock(y, "the second write", 0, 18, 1, 1, 1, 15, 77);
    }

    private static void recordAndIntAreNothing() {
        sentence("record and int are 0 of kinds 2 and 3");
        MirrorPairs x = Scenes.bare();
        Scenes.askBare(x, 0, BEGIN, 0, 0);
        Scenes.askBare(x, 1, BEGIN, 0, 0);
        Scenes.askBare(x, 1, WRITE, 9, 90);
        Scenes.askBare(x, 1, COMMIT, 9, 91);
        dueBlock(x, "kind 2", 0, 18, 1, 2, 1, 0, 0);
        Scenes.askBare(x, 1, BEGIN, 0, 0);
        Scenes.askBare(x, 1, WRITE, 9, 92);
        Scenes.askBare(x, 1, ABORT, 9, 93);
        dueBlock(x, "kind 3", 0, 20, 1, 3, 1, 0, 0);
    }

    private static void entries() {
        sentence("The trail has as many ENTRIES as there are blocks from 17 on, one behind the other, with the generation.");
        MirrorPairs x = Scenes.trail(3, 1);
        due("three", x.pair(STORE, 9), 3);
        Scenes.askBare(x, 0, COMMIT, 0, 0);
        due("none of the next generation", x.pair(STORE, 9), 0);
        dueBlock(x, "those of the old one are there", 0, 20, 1, 2, 0, 0, 0);
        Scenes.askBare(x, 0, BEGIN, 0, 0);
        Scenes.askBare(x, 0, WRITE, 2, 20);
        due("from 17 on again", x.pair(STORE, 9), 1);
        dueBlock(x, "with the generation", 0, 17, 2, 1, 0, 2, 0);
        restartBare(x);
        dueWrites(x, 0, 2, 18, 16);
        dueBlock(x, "a restart found one entry", 0, 18, 2, 3, 0, 0, 0);
        MirrorPairs y = Scenes.trail(3, 1);
        Scenes.askBare(y, 0, COMMIT, 0, 0);
        Scenes.askBare(y, 0, BEGIN, 0, 0);
        Scenes.askBare(y, 0, WRITE, 2, 20);
        bring(y, ABORT, 0, 0);
        dueWrites(y, 0, 2, 18, 16);
        due("those of the old one are not backed out", y.record(1, 0), 3);
    }

    private static void fullTrail() {
        sentence("as many ENTRIES as there are blocks from 17 on");
        MirrorPairs x = Scenes.trail(31, 1);
        due("one block is left", x.pair(STORE, 9), 31);
        bring(x, ABORT, 0, 0);
        due("the record", x.write(0), 1);
        due("the last block", x.write(0), 48);
        restartBare(x);
        due("a restart found all 32: nothing is open", x.pair(STORE, 5), 1);
        dueWrites(x, 0, 16);
    }

    private static void roomOfBegin() {
        sentence("a BEGIN has room if there are at least as many blocks free as there are transactions then");
        MirrorPairs x = Scenes.trail(30, 1);
        due("two are free, two transactions", Scenes.askBare(x, 1, BEGIN, 0, 0), 0);
        due("both can end", Scenes.askBare(x, 1, COMMIT, 0, 0), 0);
        due("one is free", x.pair(STORE, 9), 31);
        due("one is free, two transactions", Scenes.askBare(x, 1, BEGIN, 0, 0), -4);
        due("the other one ends", Scenes.askBare(x, 0, COMMIT, 0, 0), 0);
        due("all are free", Scenes.askBare(x, 1, BEGIN, 0, 0), 0);
    }

    private static void roomOfWrite() {
        sentence("a WRITE if there are, besides its own");
        MirrorPairs x = Scenes.trail(30, 1);
        due("one transaction: the 31st", Scenes.askBare(x, 0, WRITE, 1, 5), 0);
        due("one transaction: the 32nd", Scenes.askBare(x, 0, WRITE, 1, 6), -4);
        MirrorPairs y = Scenes.trail(29, 1);
        Scenes.askBare(y, 1, BEGIN, 0, 0);
        due("two transactions: the 30th", Scenes.askBare(y, 1, WRITE, 2, 5), 0);
        due("two transactions: the 31st", Scenes.askBare(y, 1, WRITE, 2, 6), -4);
        due("of the other one too", Scenes.askBare(y, 0, WRITE, 1, 7), -4);
        due("both can end", Scenes.askBare(y, 0, ABORT, 0, 0), 0);
        due("both can end", Scenes.askBare(y, 1, ABORT, 0, 0), 0);
    }

    private static void writeIsTwo() {
        sentence("WRITE is two writes: an entry of kind 1, then the record.");
        MirrorPairs x = Scenes.bare();
        Scenes.askBare(x, 0, BEGIN, 0, 0);
        bring(x, WRITE, 15, 7);
        due("the entry", x.write(0), 17);
        dueBlock(x, "the entry", 0, 17, 1, 1, 0, 15, 0);
        dueBlock(x, "not the record", 0, 15, 0);
        dueWrites(x, 0, 15);
        dueBlock(x, "the record", 0, 15, 7);
    }

    private static void commitIsOne() {
        sentence("COMMIT one: an entry of kind 2.");
        MirrorPairs x = Scenes.bare();
        Scenes.askBare(x, 1, BEGIN, 0, 0);
        Scenes.askBare(x, 0, BEGIN, 0, 0);
        bring(x, COMMIT, 0, 0);
        dueWrites(x, 0, 17);
        dueBlock(x, "the entry, without a write before it", 0, 17, 1, 2, 0, 0, 0);
    }

    private static void backingOutTheFirst() {
        sentence("gets the int of the first of those entries that have it");
        MirrorPairs x = Scenes.bare();
        Scenes.askBare(x, 0, BEGIN, 0, 0);
        Scenes.askBare(x, 0, WRITE, 1, 5);
        Scenes.askBare(x, 0, COMMIT, 0, 0);
        Scenes.askBare(x, 0, BEGIN, 0, 0);
        Scenes.askBare(x, 0, WRITE, 1, 6);
        Scenes.askBare(x, 0, WRITE, 1, 7);
        Scenes.askBare(x, 0, WRITE, 1, 8);
        bring(x, ABORT, 0, 0);
        due("in the store", x.record(1, 0), 5);
        dueWrites(x, 0, 1, 20, 16);
        dueBlock(x, "on the disc", 0, 1, 5);
    }

    private static void backingOutBehindTheLatest() {
        sentence("of the terminal's entries of kind 1 behind its latest of kind 2 or 3");
        for (int kind = COMMIT; kind <= ABORT; kind++) {
            MirrorPairs x = Scenes.bare();
            Scenes.askBare(x, 1, BEGIN, 0, 0);
            Scenes.askBare(x, 1, WRITE, 9, 90);
            Scenes.askBare(x, 0, BEGIN, 0, 0);
            Scenes.askBare(x, 0, WRITE, 1, 5);
            Scenes.askBare(x, 0, WRITE, 2, 6);
            Scenes.askBare(x, 0, kind, 0, 0);
            Scenes.askBare(x, 0, BEGIN, 0, 0);
            Scenes.askBare(x, 0, WRITE, 2, 7);
            Scenes.askBare(x, 1, WRITE, 8, 80);
            bring(x, ABORT, 0, 0);
            dueWrites(x, 0, 2, 23);
            due("what came before stays", x.record(1, 0), kind == COMMIT ? 5 : 0);
            due("the int before", x.record(2, 0), kind == COMMIT ? 6 : 0);
            due("that of the other terminal stays", x.record(9, 0), 90);
        }
    }

    private static void backingOutInOrder() {
        sentence("(a write for each record, in the order of these entries, the latest first)");
        MirrorPairs x = Scenes.bare();
        Scenes.askBare(x, 0, BEGIN, 0, 0);
        int[] records = {1, 2, 1, 3, 2, 1};
        for (int k : records) {
            Scenes.askBare(x, 0, WRITE, k, 9);
        }
        bring(x, ABORT, 0, 0);
        dueWrites(x, 0, 3, 2, 1, 23, 16);
    }

    private static void backingOutAnEntry() {
        sentence("then an entry of kind 3");
        MirrorPairs x = Scenes.bare();
        Scenes.askBare(x, 0, BEGIN, 0, 0);
        Scenes.askBare(x, 0, READ, 3, 0);
        bring(x, ABORT, 0, 0);
        dueWrites(x, 0, 17, 16);
        dueBlock(x, "without a record to set", 0, 17, 1, 3, 0, 0, 0);
    }

    private static void noTransactionLeft() {
        sentence("Behind a commit and a backing out, if no transaction is left, the generation rises by 1, "
                + "the trail is empty: block 16 is written.");
        for (int kind = COMMIT; kind <= ABORT; kind++) {
            MirrorPairs x = Scenes.bare();
            Scenes.askBare(x, 1, BEGIN, 0, 0);
            Scenes.askBare(x, 0, BEGIN, 0, 0);
            Scenes.askBare(x, 1, kind, 0, 0);
            due("one is left: generation", x.pair(STORE, 8), 1);
            due("one is left: trail", x.pair(STORE, 9), 1);
            dueBlock(x, "one is left: block 16", 0, 16, 1, 1);
            bring(x, kind, 0, 0);
            due("none is left: generation", x.pair(STORE, 8), 2);
            due("none is left: trail", x.pair(STORE, 9), 0);
            dueWrites(x, 0, 18, 16);
            dueBlock(x, "none is left: block 16", 0, 16, 2, 1);
            dueBlock(x, "the entry has the generation before", 0, 18, 1, kind - 1, 0, 0, 0);
        }
    }

    private static void currentAtFirst() {
        sentence("CURRENT are both discs at first.");
        MirrorPairs x = new MirrorPairs();
        due("disc 0", x.part(21, 0), 1);
        due("disc 1", x.part(21, 1), 1);
        due("none is revived", x.copy(), NONE);
    }

    private static void currentNoMore() {
        sentence("A disc that goes down is so no more, if the other one is up and current.");
        for (int d = 0; d < 2; d++) {
            MirrorPairs x = new MirrorPairs();
            x.fail(2, d);
            due("the other one is", x.part(21, d), 0);
            x.fail(2, 1 - d);
            due("the other one is down", x.part(21, 1 - d), 1);
            x.repair(2, 1 - d);
            due("it is current as it comes up", x.part(21, 1 - d), 1);
            x.repair(2, d);
            due("the one that was not is not", x.part(21, d), 0);
            x.fail(2, 1 - d);
            due("the other one is up and not current", x.part(21, 1 - d), 1);
        }
    }

    private static void revivedWhile() {
        sentence("One that is up and not current is REVIVED while the other one is up and current");
        MirrorPairs x = new MirrorPairs();
        x.fail(2, 1);
        due("it is down", x.part(22, 1), NONE);
        due("no block", x.copy(), NONE);
        x.repair(2, 1);
        due("it is up", x.part(22, 1), 0);
        due("the current one is not", x.part(22, 0), NONE);
        x.fail(2, 0);
        due("the other one is down", x.part(22, 1), NONE);
        due("no block", x.copy(), NONE);
        x.repair(2, 0);
        due("the other one is up", x.copy(), 0);
    }

    private static void copiedFromBlock0() {
        sentence("blocks 0, 1, .. are copied to it");
        MirrorPairs x = Scenes.trail(2, 0);
        x.repair(2, 1);
        for (int block = 0; block < 19; block++) {
            due("not copied before", x.disc(1, block, 0) == x.disc(0, block, 0) ? 1 : 0,
                    block == 0 || block > 16 ? 0 : 1);
            due("the next block", x.copy(), block);
            due("copied", x.disc(1, block, 0), x.disc(0, block, 0));
        }
        dueBlock(x, "with all its words", 1, 18, 1, 1, 0, 0, 1);
    }

    private static void writtenWhereCopied() {
        sentence("what is written to the other one in a block that was copied comes to it at the same time");
        MirrorPairs x = revived();
        Scenes.ask(x, 0, BEGIN, 0, 0);
        copies(x, 5);
        Scenes.ask(x, 0, WRITE, 5, 50);
        dueBlock(x, "the next one was not", 1, 5, 0);
        dueBlock(x, "one far behind was not", 1, 17, 0, 0, 0, 0, 0);
        Scenes.bring(x, 0, WRITE, 4, 40);
        x.write(0);
        dueBlock(x, "not before it is written", 1, 4, 0);
        x.write(0);
        dueBlock(x, "the latest one was", 1, 4, 40);
        due("the next one to copy stays", x.part(22, 1), 5);
        x.copy();
        dueBlock(x, "it comes with its copy", 1, 5, 50);
    }

    private static void currentWithBlock48() {
        sentence("with block 48 it is current");
        MirrorPairs x = revived();
        copies(x, 48);
        due("behind block 47", x.part(21, 1), 0);
        due("the next one", x.part(22, 1), 48);
        due("the last block", x.copy(), 48);
        due("current", x.part(21, 1), 1);
        due("revived no more", x.part(22, 1), NONE);
        due("no block 49", x.copy(), NONE);
    }

    private static void allWritesOfTheOther() {
        sentence("(and has all writes that the other one has)");
        for (int has = 0; has < 2; has++) {
            MirrorPairs x = revived();
            Scenes.ask(x, 0, BEGIN, 0, 0);
            Scenes.bring(x, 0, WRITE, 5, 50);
            for (int k = 0; k < has; k++) {
                x.write(0);
            }
            copies(x, 49);
            due("lacking", x.pair(STORE, 5), 2 - has);
            due("the next one for it", x.write(1), has == 0 ? 17 : 5);
            due("the next one for the other", x.write(0), has == 0 ? 17 : 5);
        }
    }

    private static void revivingBeginsAnew() {
        sentence("If it goes down, or comes up, the reviving begins with block 0 (if the other one does, it goes on where it was).");
        MirrorPairs x = revived();
        copies(x, 20);
        x.fail(2, 0);
        x.repair(2, 0);
        due("the other one went down and came up", x.part(22, 1), 20);
        due("it goes on where it was", x.copy(), 20);
        x.fail(2, 1);
        x.repair(2, 1);
        due("it went down and came up", x.part(22, 1), 0);
        due("it begins with block 0", x.copy(), 0);
        copies(x, 48);
        due("current", x.part(21, 1), 1);
        x.fail(2, 1);
        x.repair(2, 1);
        due("once it was current too", x.copy(), 0);
    }

    private static void restartByTheLower() {
        sentence("(the lower one of two; the other one is current no more then, and revived from block 0 on");
        MirrorPairs x = Scenes.writing(3, 30);
        x.write(1);
        x.write(1);
        Checks.bounce(x, 0);
        x.tick();
        due("as on disc 0", x.record(3, 0), 0);
        due("nothing to back out there", x.pair(STORE, 5), 1);
        due("disc 0 is current", x.part(21, 0), 1);
        due("disc 1 is so no more", x.part(21, 1), 0);
        due("from block 0 on", x.part(22, 1), 0);
        due("it gets no write", x.write(1), NONE);
        due("disc 0 does", x.write(0), 16);
        copies(x, 49);
        due("disc 1 is current again", x.part(21, 1), 1);
        Checks.bounce(x, 0);
        x.tick();
        due("revived before, and from block 0 on again", x.part(22, 1), 0);
        due("block 0", x.copy(), 0);
        MirrorPairs y = Scenes.writing(3, 30);
        y.fail(2, 0);
        y.write(1);
        y.write(1);
        Checks.bounce(y, 0);
        y.tick();
        dueWrites(y, 1, 3, 18, 16);
        due("the only one stays current", y.part(21, 1), 1);
    }

    private static void restartWhileReviving() {
        sentence("one that is being revived goes on where it was");
        for (int d = 0; d < 2; d++) {
            MirrorPairs x = new MirrorPairs();
            x.fail(2, d);
            x.repair(2, d);
            copies(x, 17);
            Checks.bounce(x, 0);
            x.tick();
            due("the next block", x.part(22, d), 17);
            due("the other one stays current", x.part(21, 1 - d), 1);
            due("the restart's write", x.write(1 - d), 16);
            dueBlock(x, "comes to it too", d, 16, 2, 2);
        }
    }

    private static void restartAsThere() {
        sentence("records, generation, epoch, trail as there");
        MirrorPairs x = Scenes.trail(2, 15);
        Scenes.askBare(x, 0, WRITE, 0, 5);
        Scenes.askBare(x, 0, COMMIT, 0, 0);
        Scenes.askBare(x, 0, BEGIN, 0, 0);
        bring(x, WRITE, 1, 7);
        x.write(0);
        restartBare(x);
        due("the last record there", x.record(15, 0), 2);
        due("the first record there", x.record(0, 0), 5);
        due("not what did not get there", x.record(1, 0), 0);
        due("the generation there, and 1 more", x.pair(STORE, 8), 3);
        dueWrites(x, 0, 1, 18, 16);
    }

    private static void restartEpoch() {
        sentence("The epoch of the state is 1 more");
        MirrorPairs x = Scenes.bare();
        restartBare(x);
        due("1 more", x.pair(STORE, 7), 2);
        restartBare(x);
        due("than that on the disc", x.pair(STORE, 7), 2);
        dueWrites(x, 0, 16);
        restartBare(x);
        due("which now is higher", x.pair(STORE, 7), 3);
        MirrorPairs y = Scenes.trail(1, 0);
        Scenes.askBare(y, 0, COMMIT, 0, 0);
        restartBare(y);
        due("whatever the generation", y.pair(STORE, 7), 2);
        due("the generation", y.pair(STORE, 8), 3);
    }

    private static void restartForgets() {
        sentence("the incarnations are -1, numbers, results, ints 0; no locks");
        MirrorPairs x = Scenes.bare();
        Scenes.askBare(x, 0, BEGIN, 0, 0);
        Scenes.askBare(x, 0, READ, 5, 0);
        Scenes.askBare(x, 1, BEGIN, 0, 0);
        bring(x, READ, 6, 0);
        restartBare(x);
        due("no locks", x.record(5, 1), NONE);
        due("no transactions", x.pair(STORE, 10), 0);
        x.write(0);
        Scenes.hop(x, 2, 0, 2);
        due("one that was done is not known", x.answer(0, 1), -9);
        due("its number", x.answer(0, 0), 3);
        due("nor the other terminal", Scenes.askBare(x, 1, READ, 5, 0), -9);
        due("then they are", Scenes.askBare(x, 1, BEGIN, 5, 0), 0);
        MirrorPairs y = Scenes.bare();
        restartBare(y);
        y.write(0);
        Forged.request(y, 2, 0, 0, 0, 1, 2, BEGIN, 0, 0);
        Scenes.hop(y, 2, 0);
        due("incarnation 0 with the new epoch fits not", y.pair(STORE, 10), 0);
    }

    private static void restartBacksOut() {
        sentence("Terminals (0, then 1) with entries of kind 1 behind their latest of kind 2 or 3 are backed out");
        MirrorPairs x = Scenes.bare();
        Scenes.askBare(x, 1, BEGIN, 0, 0);
        Scenes.askBare(x, 1, WRITE, 8, 80);
        Scenes.askBare(x, 0, BEGIN, 0, 0);
        Scenes.askBare(x, 0, WRITE, 7, 70);
        restartBare(x);
        dueWrites(x, 0, 7, 19, 8, 20, 16);
        dueBlock(x, "terminal 0 is first", 0, 19, 1, 3, 0, 0, 0);
        dueBlock(x, "terminal 1 is second", 0, 20, 1, 3, 1, 0, 0);
        MirrorPairs y = Scenes.bare();
        Scenes.askBare(y, 1, BEGIN, 0, 0);
        Scenes.askBare(y, 0, BEGIN, 0, 0);
        Scenes.askBare(y, 0, WRITE, 7, 70);
        Scenes.askBare(y, 0, COMMIT, 0, 0);
        restartBare(y);
        dueWrites(y, 0, 16);
        due("one that committed is not, nor one without a write", y.record(7, 0), 70);
    }

    private static void restartWritesTheHead() {
        sentence("then the generation rises in any case, and block 16 is written (once), with the new epoch");
        MirrorPairs x = Scenes.bare();
        restartBare(x);
        due("the generation", x.pair(STORE, 8), 2);
        due("the trail", x.pair(STORE, 9), 0);
        dueWrites(x, 0, 16);
        dueBlock(x, "without a backing out", 0, 16, 2, 2);
        MirrorPairs y = Scenes.trail(1, 3);
        restartBare(y);
        due("by 1 alone", y.pair(STORE, 8), 2);
        dueWrites(y, 0, 3, 18, 16);
        dueBlock(y, "behind a backing out", 0, 16, 2, 2);
    }
}
