/** PART 3 of the document, terminals: each sentence that names a boundary case, by itself. */
public final class SentencesPart3Test {
    private static final int NONE = Scenes.NONE;
    private static final int BEGIN = Scenes.BEGIN;
    private static final int READ = Scenes.READ;
    private static final int WRITE = Scenes.WRITE;
    private static final int FIRST = 1;
    private static final int SECOND = 2;

    public static void main(String[] args) {
        incarnation();
        epoch();
        answerAtFirst();
        restartBegins();
        requestIfNoneIsOpen();
        toldThenSent();
        sentAllTheSame();
        replyThatFits();
        replyTellsThenShows();
        otherReplies();
        replyWhileItWaits();
        takesOverOpen();
        takesOverAnswered();
        staysShown();
        Checks.end("SentencesPart3Test");
    }

    private static void sentence(String words) {
        Checks.sentence("PART 3", words);
    }

    private static void due(String what, long got, long want) {
        Checks.due(what, got, want);
    }

    /** Two replies to the first request of terminal 0 are on their way from 1 to 2. */
    private static MirrorPairs twoReplies() {
        MirrorPairs x = new MirrorPairs();
        Scenes.send(x, 0, BEGIN, 0, 0);
        Scenes.hop(x, 2, 0, 1);
        Scenes.end(x, 0);
        x.arrive(2, 1, false);
        due("two replies", x.link(1, 2, 0), 2);
        return x;
    }

    private static void incarnation() {
        sentence("INCARNATION (0 at first, 1 more at each restart of that terminal)");
        MirrorPairs x = new MirrorPairs();
        due("at first", x.pair(FIRST, 5), 0);
        Scenes.flick(x, 2);
        Scenes.hop(x, 3, 2, 3);
        due("a taking over leaves it", x.pair(FIRST, 5), 0);
        Scenes.flick(x, 3);
        due("terminal 1 is lost", x.pair(SECOND, 0), NONE);
        due("not before the restart", x.pair(SECOND, 5), 0);
        x.tick();
        due("1 more", x.pair(SECOND, 5), 1);
        due("of that terminal alone", x.pair(FIRST, 5), 0);
        Checks.bounce(x, 2);
        x.tick();
        due("1 more", x.pair(SECOND, 5), 2);
        due("1 more", x.pair(FIRST, 5), 1);
    }

    private static void epoch() {
        sentence("EPOCH (1 at first, -1 behind a restart)");
        MirrorPairs x = new MirrorPairs();
        due("at first", x.pair(FIRST, 8), 1);
        Checks.bounce(x, 2);
        x.tick();
        due("behind a restart", x.pair(FIRST, 8), -1);
        x.request(0, BEGIN, 0, 0);
        Scenes.hop(x, 2, 0, 1, 0, 2);
        due("as the reply tells", x.pair(FIRST, 8), 1);
        Checks.bounce(x, 2);
        x.tick();
        due("behind each restart", x.pair(FIRST, 8), -1);
    }

    private static void answerAtFirst() {
        sentence("the ANSWER (none at first)");
        MirrorPairs x = new MirrorPairs();
        for (int what = 0; what < 4; what++) {
            due("none", x.answer(0, what), NONE);
        }
        Scenes.end(x, 2);
        due("what takes over has none to show", x.answer(0, 0), NONE);
    }

    private static void restartBegins() {
        sentence("(A restart begins with number 0, no open one, no answer.)");
        MirrorPairs x = new MirrorPairs();
        Scenes.ask(x, 0, BEGIN, 0, 0);
        x.request(0, READ, 0, 0);
        Checks.bounce(x, 2);
        x.tick();
        due("number", x.pair(FIRST, 6), 0);
        due("open", x.pair(FIRST, 7), 0);
        due("it waits for nothing", x.pair(FIRST, 3), 0);
        due("answer", x.answer(0, 0), NONE);
        due("the next number", x.request(0, BEGIN, 0, 0), 1);
    }

    private static void requestIfNoneIsOpen() {
        sentence("The user's request, if none is open: the number rises by 1, it is open.");
        MirrorPairs x = new MirrorPairs();
        due("the first", x.request(0, BEGIN, 0, 0), 1);
        due("number", x.pair(FIRST, 6), 1);
        due("open", x.pair(FIRST, 7), 1);
        due("one is open", x.request(0, READ, 0, 0), NONE);
        due("the number stays", x.pair(FIRST, 6), 1);
        due("nothing is told", x.pair(FIRST, 4), 1);
        Scenes.hop(x, 2, 3, 2, 0, 1, 0, 2, 3, 2);
        due("what is open was asked first", x.answer(0, 1), 0);
        due("the next one", x.request(0, READ, 0, 0), 2);
    }

    private static void toldThenSent() {
        sentence("The terminal tells its backup; then the request is SENT");
        MirrorPairs x = new MirrorPairs();
        x.request(0, BEGIN, 0, 0);
        due("told", x.link(2, 3, 1), 3);
        due("not sent", x.link(2, 0, 0), 0);
        Scenes.hop(x, 2, 3, 2);
        due("sent", x.link(2, 0, 1), 1);
        due("once", x.link(2, 0, 0), 1);
    }

    private static void sentAllTheSame() {
        sentence("to the store's primary, if there is one (without one it is SENT all the same)");
        MirrorPairs x = new MirrorPairs();
        Checks.bounce(x, 0);
        Scenes.send(x, 0, BEGIN, 0, 0);
        due("it waits for a reply", x.pair(FIRST, 3), 2);
        due("no message to 0", x.link(2, 0, 0), 0);
        due("no message to 1", x.link(2, 1, 0), 0);
        x.tick();
        x.write(0);
        due("a primary has come", x.link(2, 0, 0), 1);
    }

    private static void replyThatFits() {
        sentence("with the incarnation and number of the open request");
        MirrorPairs x = new MirrorPairs();
        Scenes.send(x, 0, BEGIN, 0, 0);
        x.arrive(2, 0, false);
        Checks.bounce(x, 2);
        x.tick();
        due("the same number", x.request(0, BEGIN, 0, 0), 1);
        Scenes.hop(x, 0, 1, 0);
        due("a reply to the old incarnation", x.arrive(0, 2, false), 1);
        due("open still", x.pair(FIRST, 7), 1);
        due("not shown", x.answer(0, 0), NONE);
        MirrorPairs y = twoReplies();
        Scenes.hop(y, 1, 2, 3, 2);
        Scenes.send(y, 0, READ, 0, 0);
        due("a reply to the number before", y.arrive(1, 2, false), 1);
        due("open still", y.pair(FIRST, 7), 1);
        due("its number", y.pair(FIRST, 6), 2);
        Scenes.hop(y, 2, 1, 2);
        due("the reply that fits", y.pair(FIRST, 7), 0);
    }

    private static void replyTellsThenShows() {
        sentence("The terminal tells its backup; then the answer is SHOWN.");
        MirrorPairs x = new MirrorPairs();
        Scenes.bring(x, 0, BEGIN, 0, 0);
        x.arrive(0, 2, false);
        due("open no more", x.pair(FIRST, 7), 0);
        due("told", x.link(2, 3, 1), 3);
        x.arrive(2, 3, false);
        due("not shown before the word", x.answer(0, 0), NONE);
        x.arrive(3, 2, false);
        due("shown", x.answer(0, 0), 1);
    }

    private static void otherReplies() {
        sentence("Other replies are dropped");
        MirrorPairs x = twoReplies();
        Scenes.hop(x, 1, 2, 3, 2);
        due("shown", x.answer(0, 0), 1);
        due("none is open", x.arrive(1, 2, false), 1);
        due("nothing is told", x.pair(FIRST, 4), 2);
        due("it does nothing", x.pair(FIRST, 3), 0);
    }

    private static void replyWhileItWaits() {
        sentence("also one that comes while it waits for a word");
        MirrorPairs x = twoReplies();
        x.arrive(1, 2, false);
        due("it waits", x.pair(FIRST, 3), 1);
        due("another one", x.arrive(1, 2, false), 1);
        due("nothing is told", x.pair(FIRST, 4), 2);
        Scenes.hop(x, 2, 3, 2);
        due("shown", x.answer(0, 0), 1);
        MirrorPairs y = new MirrorPairs();
        y.request(0, BEGIN, 0, 0);
        Forged.reply(y, 0, 2, 0, 0, 1, 0, 0, 1);
        due("one with its incarnation and number", y.arrive(0, 2, false), 1);
        due("open still", y.pair(FIRST, 7), 1);
        due("it waits still", y.pair(FIRST, 3), 1);
        due("nothing is told", y.pair(FIRST, 4), 1);
    }

    private static void takesOverOpen() {
        sentence("What takes over: an open request is SENT (again, if it was)");
        MirrorPairs x = new MirrorPairs();
        x.request(0, BEGIN, 0, 0);
        x.arrive(2, 3, false);
        Scenes.end(x, 2);
        due("it was not", x.link(3, 0, 0), 1);
        due("it waits for a reply", x.pair(FIRST, 3), 2);
        MirrorPairs y = new MirrorPairs();
        Scenes.send(y, 0, BEGIN, 0, 0);
        y.arrive(2, 0, false);
        Scenes.end(y, 2);
        due("it was", y.link(3, 0, 0), 1);
    }

    private static void takesOverAnswered() {
        sentence("else the answer, if there is one, is shown");
        MirrorPairs x = new MirrorPairs();
        Scenes.bring(x, 0, BEGIN, 0, 0);
        Scenes.hop(x, 0, 2, 3);
        Scenes.end(x, 2);
        due("there is one", x.answer(0, 0), 1);
        due("nothing is sent", x.link(3, 0, 0), 0);
        due("it does nothing", x.pair(FIRST, 3), 0);
        MirrorPairs y = new MirrorPairs();
        Scenes.end(y, 2);
        due("there is none", y.answer(0, 0), NONE);
        due("nothing is sent", y.link(3, 0, 0), 0);
    }

    private static void staysShown() {
        sentence("(What is shown stays shown till another answer is, or a restart.)");
        MirrorPairs x = new MirrorPairs();
        Scenes.ask(x, 0, BEGIN, 0, 0);
        Scenes.bring(x, 0, READ, 3, 0);
        due("while one is open", x.answer(0, 0), 1);
        x.arrive(0, 2, false);
        due("while the next one is told", x.answer(0, 0), 1);
        x.fail(0, 2);
        due("not while it is down", x.answer(0, 0), NONE);
        Checks.ticks(x, 5);
        due("over a taking over", x.answer(0, 0), 1);
        Scenes.hop(x, 3, 0, 3);
        due("till another one", x.answer(0, 0), 2);
        Scenes.flick(x, 3);
        due("lost", x.answer(0, 0), NONE);
        x.repair(0, 2);
        x.tick();
        due("till a restart", x.answer(0, 0), NONE);
        MirrorPairs y = new MirrorPairs();
        Scenes.ask(y, 0, BEGIN, 0, 0);
        y.request(0, WRITE, 0, 0);
        Scenes.end(y, 2);
        due("the older state has the same answer", y.answer(0, 0), 1);
    }
}
