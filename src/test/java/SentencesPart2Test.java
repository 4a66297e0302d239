/** PART 2 of the document, pairs: each sentence that names a boundary case, by itself. */
public final class SentencesPart2Test {
    private static final int NONE = Scenes.NONE;
    private static final int NO = Scenes.NO;
    private static final int BEGIN = Scenes.BEGIN;
    private static final int READ = Scenes.READ;
    private static final int WRITE = Scenes.WRITE;
    private static final int COMMIT = Scenes.COMMIT;
    private static final int STORE = 0;
    private static final int FIRST = 1;
    private static final int SECOND = 2;

    public static void main(String[] args) {
        whereAPairIs();
        homesAtFirst();
        latestTold();
        numbersTold();
        waitsForTheWord();
        withoutABackup();
        nothingToldWhileComing();
        copyToOneThatIsUp();
        backupWithTheWord();
        backupIfNothingTold();
        newCopyElse();
        takenBecomesTheState();
        wordForAnotherNumber();
        noBusiness();
        linksEmpty();
        numbersAgain();
        silenceIsNothing();
        notDeclared();
        primaryStill();
        takesOver();
        lostElse();
        otherHomeHasNothing();
        backupWasThere();
        goesOn();
        declaredFirst();
        upAndNotDeclared();
        sendsACopy();
        firstHomeThatIsUp();
        storeNeedsADisc();
        copyAtOnce();
        sentAgainAtTakingOver();
        sentAgainInOrder();
        sentAgainAfterARestart();
        Checks.end("SentencesPart2Test");
    }

    private static void sentence(String words) {
        Checks.sentence("PART 2", words);
    }

    private static void due(String what, long got, long want) {
        Checks.due(what, got, want);
    }

    private static void duePair(MirrorPairs x, String what, int k, int primary, int backup, int coming) {
        due(what + ": primary", x.pair(k, 0), primary);
        due(what + ": backup", x.pair(k, 1), backup);
        due(what + ": coming", x.pair(k, 2), coming);
    }

    private static void whereAPairIs() {
        sentence("A pair has a PRIMARY on one home, or is LOST; a BACKUP on the other one, or it is COMING, or there is none.");
        MirrorPairs x = new MirrorPairs();
        duePair(x, "a backup", SECOND, 3, 2, 0);
        Scenes.flick(x, 3);
        duePair(x, "it is coming", SECOND, 2, NONE, 1);
        Scenes.end(x, 3);
        duePair(x, "there is none", SECOND, 2, NONE, 0);
        x.fail(0, 2);
        Checks.ticks(x, 5);
        duePair(x, "lost", SECOND, NONE, NONE, 0);
    }

    private static void homesAtFirst() {
        sentence("At first the store is on 0, terminal 0 on 2, terminal 1 on 3, all with backups.");
        MirrorPairs x = new MirrorPairs();
        duePair(x, "store", STORE, 0, 1, 0);
        duePair(x, "terminal 0", FIRST, 2, 3, 0);
        duePair(x, "terminal 1", SECOND, 3, 2, 0);
    }

    private static void latestTold() {
        sentence("its backup has a state, too: the one told latest");
        MirrorPairs x = new MirrorPairs();
        Scenes.ask(x, 0, BEGIN, 0, 0);
        Scenes.send(x, 0, WRITE, 6, 60);
        x.arrive(2, 0, false);
        due("the primary has what it does now", x.record(6, 0), 60);
        Scenes.flick(x, 0);
        due("the backup was not told that", x.record(6, 0), 0);
        due("but what came before", x.pair(STORE, 10), 1);
        MirrorPairs y = new MirrorPairs();
        Scenes.flick(y, 0);
        due("told nothing it has the first state", y.pair(STORE, 7), 1);
    }

    private static void numbersTold() {
        sentence("(and a number, from 1 on for each pair, copies too)");
        MirrorPairs x = new MirrorPairs();
        due("none told", x.pair(FIRST, 4), 0);
        x.request(0, BEGIN, 0, 0);
        due("the first one", x.pair(FIRST, 4), 1);
        due("of this pair alone", x.pair(SECOND, 4), 0);
        x.request(1, BEGIN, 0, 0);
        due("each pair from 1 on", x.pair(SECOND, 4), 1);
        Scenes.flick(x, 3);
        due("a copy counts", x.pair(FIRST, 4), 2);
        due("of each pair", x.pair(SECOND, 4), 2);
        due("the store told nothing", x.pair(STORE, 4), 0);
    }

    private static void waitsForTheWord() {
        sentence("the primary does nothing more till the WORD for that number comes back");
        MirrorPairs x = new MirrorPairs();
        Scenes.ask(x, 0, BEGIN, 0, 0);
        x.request(0, WRITE, 4, 40);
        x.arrive(2, 3, false);
        due("the terminal waits", x.pair(FIRST, 3), 1);
        due("it sends nothing", x.link(2, 0, 0), 0);
        x.arrive(3, 2, false);
        due("then it sends", x.link(2, 0, 0), 1);
        x.arrive(2, 0, false);
        Scenes.send(x, 1, BEGIN, 0, 0);
        x.arrive(3, 0, false);
        x.arrive(0, 1, false);
        due("the store waits", x.pair(STORE, 3), 1);
        due("it begins nothing", x.pair(STORE, 6), 1);
        due("it does not write", x.write(0), NONE);
        x.arrive(1, 0, false);
        due("then it writes", x.write(0), 17);
    }

    private static void withoutABackup() {
        sentence("Without a backup it goes on at once.");
        MirrorPairs x = Scenes.bare();
        x.request(0, BEGIN, 0, 0);
        due("the terminal sends", x.link(2, 0, 0), 1);
        x.arrive(2, 0, false);
        due("the store replies", x.link(0, 2, 0), 1);
        x.arrive(0, 2, false);
        due("the terminal shows", x.answer(0, 0), 1);
        due("the terminal told nothing", x.pair(FIRST, 4), 0);
        due("the store told nothing", x.pair(STORE, 4), 0);
    }

    private static void nothingToldWhileComing() {
        sentence("While it is coming nothing is told.");
        MirrorPairs x = new MirrorPairs();
        Scenes.flick(x, 3);
        Scenes.flick(x, 1);
        x.request(0, BEGIN, 0, 0);
        due("the copy alone", x.pair(FIRST, 4), 1);
        due("two copies, nothing more", x.link(2, 3, 0), 2);
        due("it goes on", x.link(2, 0, 0), 1);
        x.arrive(2, 0, false);
        due("the store's copy alone", x.pair(STORE, 4), 1);
        due("the store goes on", x.link(0, 2, 0), 1);
    }

    private static void copyToOneThatIsUp() {
        sentence("COPY: a message with the whole state to the other home, which is up: the backup is COMING.");
        MirrorPairs x = new MirrorPairs();
        Scenes.flick(x, 1);
        duePair(x, "coming", STORE, 0, NONE, 1);
        due("a copy", x.link(0, 1, 1), 4);
        MirrorPairs y = new MirrorPairs();
        Scenes.end(y, 0);
        duePair(y, "the other home is down", STORE, 1, NONE, 0);
        due("no copy", y.pair(STORE, 4), 0);
    }

    private static void backupWithTheWord() {
        sentence("When the word for that number comes back there is a backup");
        MirrorPairs x = new MirrorPairs();
        Scenes.flick(x, 1);
        x.arrive(0, 1, false);
        duePair(x, "taken", STORE, 0, NONE, 1);
        x.arrive(1, 0, false);
        duePair(x, "the word is back", STORE, 0, 1, 0);
    }

    private static void backupIfNothingTold() {
        sentence("if nothing would have been told since it was sent");
        MirrorPairs x = new MirrorPairs();
        x.fail(0, 3);
        x.request(0, BEGIN, 0, 0);
        x.repair(0, 3);
        Scenes.hop(x, 2, 3, 2);
        duePair(x, "told before it was sent", FIRST, 2, 3, 0);
        MirrorPairs y = new MirrorPairs();
        Scenes.end(y, 1);
        Scenes.send(y, 0, BEGIN, 0, 0);
        Scenes.hop(y, 2, 0, 2, 3, 2);
        Scenes.send(y, 0, WRITE, 5, 50);
        y.arrive(2, 0, false);
        y.repair(0, 1);
        Checks.writeAll(y);
        due("what was begun before is done", y.pair(STORE, 3), 0);
        Scenes.hop(y, 0, 1, 0);
        duePair(y, "writing and replying tells nothing", STORE, 0, 1, 0);
    }

    private static void newCopyElse() {
        sentence("else a new copy is sent");
        for (int late = 0; late < 2; late++) {
            MirrorPairs x = new MirrorPairs();
            Scenes.flick(x, 3);
            if (late == 0) {
                x.request(0, BEGIN, 0, 0);
            }
            x.arrive(2, 3, false);
            if (late == 1) {
                x.request(0, BEGIN, 0, 0);
            }
            x.arrive(3, 2, false);
            duePair(x, "coming still", FIRST, 2, NONE, 1);
            due("a new number", x.pair(FIRST, 4), 2);
            due("behind the other terminal's", x.link(2, 3, 0), 2);
            Scenes.hop(x, 2, 3, 2, 3, 2);
            duePair(x, "in the end", FIRST, 2, 3, 0);
            Scenes.flick(x, 2);
            due("it has the request", x.pair(FIRST, 7), 1);
        }
    }

    private static void takenBecomesTheState() {
        sentence("A checkpoint or copy that is taken becomes the state of the other home; a word with its number goes back.");
        MirrorPairs x = new MirrorPairs();
        x.request(0, BEGIN, 0, 0);
        x.arrive(2, 3, false);
        due("a word", x.link(3, 2, 1), 5);
        Scenes.flick(x, 2);
        due("a checkpoint that was taken", x.pair(FIRST, 6), 1);
        MirrorPairs y = new MirrorPairs();
        y.request(0, BEGIN, 0, 0);
        Scenes.flick(y, 2);
        due("one that was not", y.pair(FIRST, 6), 0);
        MirrorPairs z = new MirrorPairs();
        Scenes.ask(z, 0, BEGIN, 0, 0);
        Scenes.flick(z, 3);
        Scenes.hop(z, 2, 3, 2);
        Scenes.flick(z, 2);
        due("a copy", z.pair(FIRST, 6), 1);
    }

    private static void wordForAnotherNumber() {
        sentence("A word for another number than the latest is dropped");
        MirrorPairs x = new MirrorPairs();
        Scenes.ask(x, 0, BEGIN, 0, 0);
        x.request(0, READ, 0, 0);
        due("the latest number", x.pair(FIRST, 4), 3);
        for (int number = 2; number <= 4; number += 2) {
            Forged.word(x, 3, 2, FIRST, number);
            due("it is taken", x.arrive(3, 2, false), 1);
            due("the terminal waits still", x.pair(FIRST, 3), 1);
        }
        Scenes.hop(x, 2, 3, 2);
        due("till the word for it", x.pair(FIRST, 3), 2);
        MirrorPairs y = new MirrorPairs();
        Scenes.flick(y, 1);
        Forged.word(y, 1, 0, STORE, 0);
        y.arrive(1, 0, false);
        duePair(y, "a copy's word likewise", STORE, 0, NONE, 1);
    }

    private static void noBusiness() {
        sentence("so is all that arrives at a processor where it has no business "
                + "(a request where the store's primary is not, a reply where the terminal's is not)");
        MirrorPairs x = new MirrorPairs();
        Forged.request(x, 2, 1, 0, 0, 1, 1, BEGIN, 0, 0);
        due("a request at the backup", x.arrive(2, 1, false), 1);
        due("the store does nothing", x.pair(STORE, 3), 0);
        due("it has no transaction", x.pair(STORE, 10), 0);
        due("no reply", x.link(1, 2, 0) + x.link(0, 2, 0), 0);
        Scenes.send(x, 0, BEGIN, 0, 0);
        Forged.reply(x, 0, 3, 0, 0, 1, 0, 0, 1);
        due("a reply at the backup", x.arrive(0, 3, false), 1);
        due("the request is open still", x.pair(FIRST, 7), 1);
        Scenes.hop(x, 2, 0);
        Forged.word(x, 2, 3, STORE, 1);
        due("a word at no home", x.arrive(2, 3, false), 1);
        due("the store waits still", x.pair(STORE, 3), 1);
        int[][] ways = {{0, 3}, {2, 1}, {3, 2}};
        for (int[] way : ways) {
            Forged.checkpoint(x, way[0], way[1], FIRST, 1);
            due("a checkpoint from elsewhere, or to elsewhere", x.arrive(way[0], way[1], false), 1);
            due("no word goes back", x.link(way[1], way[0], 0), 0);
        }
    }

    private static void linksEmpty() {
        sentence("all links from it and to it are empty");
        MirrorPairs x = new MirrorPairs();
        Scenes.send(x, 1, BEGIN, 0, 0);
        x.request(0, BEGIN, 0, 0);
        x.arrive(2, 3, true);
        due("to it", x.link(3, 2, 0), 1);
        due("from it", x.link(2, 3, 0), 1);
        x.fail(0, 2);
        due("to it none", x.link(3, 2, 0), 0);
        due("from it none", x.link(2, 3, 0), 0);
        due("none arrives", x.arrive(3, 2, false), 0);
        due("others stay", x.link(3, 0, 0), 1);
    }

    private static void numbersAgain() {
        sentence("numbers begin with 1 again, nothing was taken");
        MirrorPairs x = new MirrorPairs();
        Scenes.ask(x, 0, BEGIN, 0, 0);
        due("taken before", x.link(2, 3, 4), 2);
        due("taken before", x.link(3, 2, 4), 2);
        x.fail(0, 2);
        due("from it nothing", x.link(2, 3, 4), 0);
        due("to it nothing", x.link(3, 2, 4), 0);
        due("others stay", x.link(0, 1, 4), 1);
        x.repair(0, 2);
        due("to it from 1 on", x.link(3, 2, 3), 1);
        due("it is taken", x.arrive(3, 2, false), 1);
        due("from it from 1 on", x.link(2, 3, 3), 1);
        due("it is taken", x.arrive(2, 3, false), 1);
    }

    private static void silenceIsNothing() {
        sentence("Its silence is 0");
        MirrorPairs x = new MirrorPairs();
        x.fail(0, 3);
        Checks.ticks(x, 4);
        x.repair(0, 3);
        due("it had 4", x.part(2, 3), 4);
        x.fail(0, 3);
        due("as it goes down again", x.part(2, 3), 0);
        Checks.ticks(x, 4);
        due("it needs five anew", x.part(1, 3), 0);
    }

    private static void notDeclared() {
        sentence("it is not declared");
        MirrorPairs x = new MirrorPairs();
        Scenes.end(x, 3);
        x.repair(0, 3);
        x.fail(0, 3);
        due("though it was before", x.part(1, 3), 0);
        x.tick();
        due("it gets silence again", x.part(2, 3), 1);
    }

    private static void primaryStill() {
        sentence("a primary that was there is so still, but does nothing, and has nothing");
        MirrorPairs x = Scenes.writing(3, 30);
        x.fail(0, 0);
        duePair(x, "the store", STORE, 0, 1, 0);
        due("it does not write", x.write(0), NONE);
        due("it has no records", x.record(3, 0), NO);
        due("no state", x.pair(STORE, 8), NONE);
        x.fail(0, 3);
        duePair(x, "terminal 1", SECOND, 3, 2, 0);
        due("it asks nothing", x.request(1, BEGIN, 0, 0), NONE);
        due("no state", x.pair(SECOND, 6), NONE);
    }

    private static void takesOver() {
        sentence("if it has a backup, and that home is up, that TAKES OVER: "
                + "it is the primary, with its state, without a backup");
        MirrorPairs x = Scenes.writing(3, 30);
        x.fail(0, 0);
        Checks.ticks(x, 4);
        duePair(x, "not yet", STORE, 0, 1, 0);
        x.tick();
        duePair(x, "taken over", STORE, 1, NONE, 0);
        due("with its state", x.record(3, 0), 30);
        Checks.writeAll(x);
        Scenes.hop(x, 1, 2, 3, 2);
        due("with what it knew of the terminal", x.answer(0, 0), 2);
        MirrorPairs z = new MirrorPairs();
        Scenes.ask(z, 0, BEGIN, 0, 0);
        Scenes.ask(z, 0, COMMIT, 0, 0);
        Scenes.ask(z, 0, BEGIN, 0, 0);
        Scenes.ask(z, 0, WRITE, 3, 30);
        Scenes.end(z, 0);
        due("with its generation", z.pair(STORE, 8), 2);
        due("with its trail", z.pair(STORE, 9), 1);
        due("with its locks", z.record(3, 1), 0);
        due("with its transactions", z.pair(STORE, 10), 1);
        MirrorPairs y = new MirrorPairs();
        Scenes.end(y, 2);
        duePair(y, "terminal 0", FIRST, 3, NONE, 0);
        duePair(y, "terminal 1 has no backup", SECOND, 3, NONE, 0);
    }

    private static void lostElse() {
        sentence("else the pair is lost");
        MirrorPairs x = new MirrorPairs();
        x.fail(0, 0);
        x.fail(0, 1);
        Checks.ticks(x, 5);
        duePair(x, "its other home is down", STORE, NONE, NONE, 0);
        MirrorPairs y = new MirrorPairs();
        Scenes.end(y, 1);
        Scenes.flick(y, 0);
        duePair(y, "it has no backup", STORE, NONE, NONE, 0);
        MirrorPairs z = new MirrorPairs();
        Scenes.flick(z, 1);
        Scenes.flick(z, 0);
        duePair(z, "the backup is only coming", STORE, NONE, NONE, 0);
        MirrorPairs w = new MirrorPairs();
        w.fail(0, 3);
        w.tick();
        w.fail(0, 2);
        Checks.ticks(w, 4);
        duePair(w, "its other home is down, but not declared", SECOND, NONE, NONE, 0);
        duePair(w, "that one has a primary still", FIRST, 2, NONE, 0);
    }

    private static void otherHomeHasNothing() {
        sentence("and its other home has nothing of it");
        MirrorPairs x = new MirrorPairs();
        Scenes.ask(x, 0, BEGIN, 0, 0);
        Scenes.flick(x, 3);
        x.arrive(2, 3, false);
        Scenes.end(x, 2);
        due("it is there", x.pair(FIRST, 0), 3);
        due("but not with what was copied", x.pair(FIRST, 6), 0);
        due("a new incarnation", x.pair(FIRST, 5), 1);
        due("the copy's answer is not shown", x.answer(0, 0), NONE);
    }

    private static void backupWasThere() {
        sentence("For each pair whose backup was there, or was coming there: it has none");
        MirrorPairs x = new MirrorPairs();
        x.fail(0, 1);
        Checks.ticks(x, 4);
        duePair(x, "not yet", STORE, 0, 1, 0);
        x.tick();
        duePair(x, "none", STORE, 0, NONE, 0);
        MirrorPairs y = new MirrorPairs();
        Scenes.flick(y, 1);
        y.fail(0, 1);
        Checks.ticks(y, 4);
        duePair(y, "coming still", STORE, 0, NONE, 1);
        y.tick();
        duePair(y, "coming no more", STORE, 0, NONE, 0);
        duePair(y, "others stay", FIRST, 2, 3, 0);
    }

    private static void goesOn() {
        sentence("if it waited for the word it goes on");
        MirrorPairs x = new MirrorPairs();
        Scenes.send(x, 0, BEGIN, 0, 0);
        x.arrive(2, 0, false);
        x.fail(0, 1);
        Checks.ticks(x, 4);
        due("the store waits", x.pair(STORE, 3), 1);
        x.tick();
        due("it went on", x.pair(STORE, 3), 0);
        due("it replied", x.link(0, 2, 0), 1);
        MirrorPairs y = new MirrorPairs();
        y.request(0, BEGIN, 0, 0);
        Scenes.end(y, 3);
        due("the terminal sent", y.link(2, 0, 0), 1);
        MirrorPairs z = new MirrorPairs();
        Scenes.end(z, 3);
        due("one that did not wait does nothing", z.link(2, 0, 0), 0);
    }

    private static void declaredFirst() {
        sentence("if it was not declared, it is declared first");
        MirrorPairs x = new MirrorPairs();
        Scenes.flick(x, 0);
        duePair(x, "taken over", STORE, 1, NONE, 1);
        MirrorPairs y = new MirrorPairs();
        Scenes.send(y, 0, BEGIN, 0, 0);
        y.arrive(2, 0, false);
        Scenes.flick(y, 1);
        due("it went on", y.link(0, 2, 0), 1);
        Scenes.hop(y, 0, 1, 0);
        Scenes.flick(y, 0);
        due("the copy was sent behind that: nothing is being done", y.link(1, 2, 0), 0);
        due("but it is done", y.pair(STORE, 10), 1);
        MirrorPairs z = new MirrorPairs();
        Scenes.end(z, 0);
        z.repair(0, 0);
        duePair(z, "it was declared before: once", STORE, 1, NONE, 1);
    }

    private static void upAndNotDeclared() {
        sentence("It is up, and not declared (its silence stays)");
        for (int ticks = 0; ticks <= 6; ticks += 2) {
            MirrorPairs x = new MirrorPairs();
            x.fail(0, 2);
            Checks.ticks(x, ticks);
            x.repair(0, 2);
            due("up", x.part(0, 2), 1);
            due("not declared", x.part(1, 2), 0);
            due("silence", x.part(2, 2), Math.min(ticks, 5));
        }
    }

    private static void sendsACopy() {
        sentence("then each pair (store, terminals) whose primary is on its other home, "
                + "and that has no backup there nor coming, sends a copy");
        MirrorPairs x = new MirrorPairs();
        Scenes.flick(x, 3);
        due("two copies", x.link(2, 3, 0), 2);
        due("not the store", x.pair(STORE, 4), 0);
        Scenes.hop(x, 2, 3, 2);
        duePair(x, "terminal 0 was first", FIRST, 2, 3, 0);
        duePair(x, "terminal 1 was second", SECOND, 2, NONE, 1);
        MirrorPairs y = new MirrorPairs();
        y.fail(0, 0);
        y.fail(0, 1);
        y.repair(0, 1);
        duePair(y, "a primary that is down", STORE, 0, NONE, 0);
        due("sends none", y.pair(STORE, 4), 0);
        y.repair(0, 0);
        duePair(y, "one that is lost", STORE, NONE, NONE, 0);
        due("sends none", y.pair(STORE, 4), 0);
    }

    private static void firstHomeThatIsUp() {
        sentence("A pair RESTARTS on the first of its homes that is up");
        MirrorPairs x = new MirrorPairs();
        Checks.bounce(x, 0);
        Checks.bounce(x, 2);
        x.tick();
        due("the store on 0", x.pair(STORE, 0), 0);
        due("terminal 0 on 2", x.pair(FIRST, 0), 2);
        due("terminal 1 on 2", x.pair(SECOND, 0), 2);
        MirrorPairs y = new MirrorPairs();
        for (int p = 0; p < 4; p++) {
            y.fail(0, p);
        }
        y.repair(0, 1);
        y.repair(0, 3);
        Checks.ticks(y, 5);
        due("the store on 1", y.pair(STORE, 0), 1);
        due("terminal 0 on 3", y.pair(FIRST, 0), 3);
        due("terminal 1 on 3", y.pair(SECOND, 0), 3);
    }

    private static void storeNeedsADisc() {
        sentence("(a store: if besides a disc is up and CURRENT)");
        MirrorPairs x = new MirrorPairs();
        Checks.bounce(x, 0);
        Checks.bounce(x, 2);
        x.fail(2, 0);
        x.fail(2, 1);
        x.tick();
        due("no disc is up", x.pair(STORE, 0), NONE);
        due("a terminal needs none", x.pair(FIRST, 0), 2);
        x.repair(2, 0);
        x.tick();
        due("the one that is up is not current", x.pair(STORE, 0), NONE);
        x.repair(2, 1);
        x.tick();
        due("one is", x.pair(STORE, 0), 0);
    }

    private static void copyAtOnce() {
        sentence("If its other home is up a copy goes there at once (of its first state).");
        MirrorPairs x = new MirrorPairs();
        Checks.bounce(x, 0);
        x.tick();
        duePair(x, "up", STORE, 0, NONE, 1);
        due("a copy", x.link(0, 1, 1), 4);
        x.write(0);
        due("the writes are done", x.pair(STORE, 3), 0);
        Scenes.hop(x, 0, 1, 0);
        Scenes.flick(x, 0);
        due("the copy knew nothing of that", x.pair(STORE, 3), 2);
        due("but of the restart", x.pair(STORE, 7), 2);
        MirrorPairs y = new MirrorPairs();
        y.fail(0, 2);
        y.fail(0, 3);
        Checks.ticks(y, 5);
        y.repair(0, 3);
        y.tick();
        duePair(y, "down", FIRST, 3, NONE, 0);
        due("no copy", y.pair(FIRST, 4), 0);
    }

    private static void sentAgainAtTakingOver() {
        sentence("When the store's primary has come (by taking over [..] whose request is SENT sends it to it again.");
        MirrorPairs x = new MirrorPairs();
        Scenes.send(x, 0, BEGIN, 0, 0);
        x.request(1, BEGIN, 0, 0);
        Scenes.end(x, 0);
        due("one that was sent", x.link(2, 1, 0), 1);
        due("one that was not", x.link(3, 1, 0), 0);
        Scenes.hop(x, 3, 2, 3);
        due("it is sent in its time", x.link(3, 1, 0), 1);
        MirrorPairs y = new MirrorPairs();
        Scenes.ask(y, 0, BEGIN, 0, 0);
        Scenes.end(y, 0);
        due("one that was answered", y.link(2, 1, 0), 0);
        MirrorPairs z = new MirrorPairs();
        Scenes.send(z, 0, BEGIN, 0, 0);
        z.fail(0, 2);
        Scenes.flick(z, 0);
        due("a terminal that is down", z.link(2, 1, 0), 0);
    }

    private static void sentAgainInOrder() {
        sentence("each terminal, 0 then 1");
        MirrorPairs x = new MirrorPairs();
        Scenes.end(x, 3);
        x.request(1, BEGIN, 0, 0);
        x.request(0, BEGIN, 0, 0);
        Scenes.end(x, 0);
        due("both", x.link(2, 1, 0), 2);
        Scenes.hop(x, 2, 1, 2);
        due("terminal 0 is answered", x.answer(0, 0), 1);
        due("terminal 1 is not", x.answer(1, 0), NONE);
    }

    private static void sentAgainAfterARestart() {
        sentence("by a restart when that primary has done its writes");
        MirrorPairs x = new MirrorPairs();
        Scenes.ask(x, 0, BEGIN, 0, 0);
        Scenes.ask(x, 0, WRITE, 1, 10);
        Scenes.send(x, 0, READ, 1, 0);
        Checks.bounce(x, 0);
        x.tick();
        int[] blocks = {1, 18, 16};
        for (int block : blocks) {
            due("not yet", x.link(2, 0, 0), 0);
            due("a write", x.write(0), block);
        }
        due("sent again", x.link(2, 0, 0), 1);
    }
}
