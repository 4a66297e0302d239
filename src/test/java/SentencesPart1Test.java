/** PART 1 of the document, parts, links and ticks: each sentence that names a boundary case, by itself. */
public final class SentencesPart1Test {
    private static final int NONE = Scenes.NONE;
    private static final int BEGIN = Scenes.BEGIN;

    public static void main(String[] args) {
        partsAtFirst();
        linksThereAre();
        numbersOfMessages();
        firstOnBus0();
        firstOnBus1();
        firstWaits();
        toOneThatIsDown();
        arrivesOnlyFromABus();
        takenIfGreater();
        droppedElse();
        goesFromTheRow();
        staysIfThatIsLost();
        busGoesDown();
        tickNumbers();
        silence();
        silenceNeedsABus();
        declaredWithFive();
        byNumbers();
        firstOfEachLinkThatWaits();
        senderAndReceiverUp();
        notTheBusOfLast();
        onNoneBefore();
        elseThatOne();
        inThisOrder();
        lostPairsRestart();
        Checks.end("SentencesPart1Test");
    }

    private static void sentence(String words) {
        Checks.sentence("PART 1", words);
    }

    private static void due(String what, long got, long want) {
        Checks.due(what, got, want);
    }

    private static MirrorPairs asked() {
        MirrorPairs x = new MirrorPairs();
        x.request(0, BEGIN, 0, 0);
        return x;
    }

    /** On the link from 2 to 3 a checkpoint of terminal 0, and behind it a word for terminal 1. */
    private static void putTwo(MirrorPairs x) {
        x.request(0, BEGIN, 0, 0);
        x.request(1, BEGIN, 0, 0);
        x.arrive(3, 2, false);
    }

    private static void partsAtFirst() {
        sentence("PROCESSORS 0 to 3, BUSES 0 and 1, DISCS 0 and 1; each is UP (as at first) or DOWN.");
        int[] questions = {0, 10, 20};
        int[] counts = {4, 2, 2};
        for (int what = 0; what < 3; what++) {
            MirrorPairs x = new MirrorPairs();
            for (int k = 0; k < counts[what]; k++) {
                due("up at first", x.part(questions[what], k), 1);
                x.fail(what, k);
                due("down", x.part(questions[what], k), 0);
                x.repair(what, k);
                due("up again", x.part(questions[what], k), 1);
            }
            due("none below", x.part(questions[what], -1), NONE);
            due("none above", x.part(questions[what], counts[what]), NONE);
        }
    }

    private static void linksThereAre() {
        sentence("LINKS: from each processor to each other one a row of MESSAGES");
        MirrorPairs x = new MirrorPairs();
        for (int from = -1; from < 5; from++) {
            for (int to = -1; to < 5; to++) {
                boolean is = from >= 0 && from < 4 && to >= 0 && to < 4 && from != to;
                due("from " + from + " to " + to, x.link(from, to, 0), is ? 0 : NONE);
            }
        }
    }

    private static void numbersOfMessages() {
        sentence("numbered from 1 on as they come to it");
        MirrorPairs x = new MirrorPairs();
        putTwo(x);
        due("the first one", x.link(2, 3, 3), 1);
        x.arrive(2, 3, false);
        due("the second one", x.link(2, 3, 3), 2);
        x.arrive(2, 3, false);
        due("another link has its own numbers", x.link(3, 0, 3), 1);
        due("the row is empty", x.link(2, 3, 0), 0);
        Scenes.hop(x, 3, 2, 0, 1, 0, 2);
        due("behind an empty row they go on", x.link(2, 3, 3), 3);
    }

    private static void firstOnBus0() {
        sentence("A message that becomes the first is on bus 0 if that is up");
        MirrorPairs x = new MirrorPairs();
        putTwo(x);
        due("as it comes", x.link(2, 3, 2), 0);
        x.lose(2, 3);
        x.tick();
        due("the first one went to the other bus", x.link(2, 3, 2), 1);
        x.arrive(2, 3, false);
        due("as it moves up", x.link(2, 3, 2), 0);
    }

    private static void firstOnBus1() {
        sentence("else on bus 1 if that is");
        MirrorPairs x = new MirrorPairs();
        x.fail(1, 0);
        putTwo(x);
        due("as it comes", x.link(2, 3, 2), 1);
        x.arrive(2, 3, false);
        due("as it moves up", x.link(2, 3, 2), 1);
    }

    private static void firstWaits() {
        sentence("else it waits");
        MirrorPairs x = new MirrorPairs();
        x.fail(1, 0);
        x.fail(1, 1);
        x.request(0, BEGIN, 0, 0);
        due("it is there", x.link(2, 3, 0), 1);
        due("on no bus", x.link(2, 3, 2), NONE);
        x.repair(1, 0);
        due("a repair alone brings it on none", x.link(2, 3, 2), NONE);
    }

    private static void toOneThatIsDown() {
        sentence("To a processor that is down no message goes: what would be sent there is gone.");
        MirrorPairs x = new MirrorPairs();
        x.fail(0, 3);
        x.request(0, BEGIN, 0, 0);
        due("no checkpoint", x.link(2, 3, 0), 0);
        x.repair(0, 3);
        due("it did not come later", x.link(2, 3, 1), 4);
        due("it took no number", x.link(2, 3, 3), 1);
        MirrorPairs y = asked();
        y.arrive(2, 3, false);
        y.fail(0, 0);
        y.arrive(3, 2, false);
        due("sent", y.pair(1, 3), 2);
        due("no request", y.link(2, 0, 0), 0);
    }

    private static void arrivesOnlyFromABus() {
        sentence("The first message of a link ARRIVES (when it is on a bus)");
        MirrorPairs x = asked();
        x.lose(2, 3);
        due("it waits", x.arrive(2, 3, false), 0);
        due("it stays", x.link(2, 3, 0), 1);
        due("nothing is taken", x.link(2, 3, 4), 0);
        due("nothing is done", x.link(3, 2, 0), 0);
        x.tick();
        due("on a bus", x.arrive(2, 3, false), 1);
        due("none is left", x.arrive(2, 3, false), 0);
    }

    private static void takenIfGreater() {
        sentence("if its number is greater than that TAKEN latest from this link, it is taken, and what it brings is done");
        MirrorPairs x = new MirrorPairs();
        putTwo(x);
        due("1 is greater than 0", x.arrive(2, 3, false), 1);
        due("1 is taken", x.link(2, 3, 4), 1);
        due("the word for it", x.link(3, 2, 1), 5);
        due("2 is greater than 1", x.arrive(2, 3, false), 1);
        due("2 is taken", x.link(2, 3, 4), 2);
        due("the request that waited for it", x.link(3, 0, 0), 1);
    }

    private static void droppedElse() {
        sentence("else it is dropped");
        MirrorPairs x = asked();
        x.arrive(2, 3, true);
        x.tick();
        due("its number was taken", x.arrive(2, 3, false), 2);
        due("it is not done twice", x.link(3, 2, 0), 1);
        due("taken stays", x.link(2, 3, 4), 1);
    }

    private static void goesFromTheRow() {
        sentence("If the sender is told so it goes from the row");
        MirrorPairs x = asked();
        x.arrive(2, 3, false);
        due("taken", x.link(2, 3, 0), 0);
        MirrorPairs y = asked();
        y.arrive(2, 3, true);
        y.tick();
        y.arrive(2, 3, false);
        due("dropped", y.link(2, 3, 0), 0);
    }

    private static void staysIfThatIsLost() {
        sentence("if that gets LOST it stays, and waits");
        MirrorPairs x = asked();
        for (int answer = 1; answer <= 2; answer++) {
            due("it arrives", x.arrive(2, 3, true), answer);
            due("it stays", x.link(2, 3, 0), 1);
            due("with its number", x.link(2, 3, 3), 1);
            due("it waits", x.link(2, 3, 2), NONE);
            due("it cannot arrive", x.arrive(2, 3, false), 0);
            x.tick();
        }
    }

    private static void busGoesDown() {
        sentence("When a bus goes down what is on it waits.");
        for (int bus = 0; bus < 2; bus++) {
            MirrorPairs x = asked();
            x.lose(2, 3);
            x.tick();
            x.request(1, BEGIN, 0, 0);
            due("one is on bus 1", x.link(2, 3, 2), 1);
            due("one is on bus 0", x.link(3, 2, 2), 0);
            x.fail(1, bus);
            due("of bus 1", x.link(2, 3, 2), bus == 1 ? NONE : 1);
            due("of bus 0", x.link(3, 2, 2), bus == 0 ? NONE : 0);
            x.repair(1, bus);
            due("till a tick", x.link(bus == 0 ? 3 : 2, bus == 0 ? 2 : 3, 2), NONE);
        }
    }

    private static void tickNumbers() {
        sentence("TICK: its number rises by 1 (the first one is 1)");
        MirrorPairs x = new MirrorPairs();
        due("none yet", x.part(30, 0), 0);
        due("the first", x.tick(), 1);
        due("the second", x.tick(), 2);
        x.request(0, BEGIN, 0, 0);
        x.fail(0, 0);
        due("nothing else raises it", x.part(30, 0), 2);
        due("the third", x.tick(), 3);
    }

    private static void silence() {
        sentence("each processor, by numbers, that is down and not DECLARED [..] gets 1 more SILENCE");
        MirrorPairs x = new MirrorPairs();
        x.fail(0, 3);
        for (int tick = 1; tick <= 7; tick++) {
            x.tick();
            due("one that is down, in tick " + tick, x.part(2, 3), Math.min(tick, 5));
            due("one that is up", x.part(2, 0), 0);
        }
        x.repair(0, 3);
        x.tick();
        due("one that is up again", x.part(2, 3), 5);
    }

    private static void silenceNeedsABus() {
        sentence("if a bus is up");
        MirrorPairs x = new MirrorPairs();
        x.fail(0, 1);
        x.fail(1, 0);
        x.tick();
        due("bus 1 is", x.part(2, 1), 1);
        x.fail(1, 1);
        x.tick();
        due("none is", x.part(2, 1), 1);
        x.repair(1, 0);
        x.tick();
        due("bus 0 is", x.part(2, 1), 2);
    }

    private static void declaredWithFive() {
        sentence("with 5 it is declared");
        for (int p = 0; p < 4; p++) {
            MirrorPairs x = new MirrorPairs();
            x.fail(0, p);
            Checks.ticks(x, 4);
            due("with 4 it is not", x.part(1, p), 0);
            x.tick();
            due("with 5 it is", x.part(1, p), 1);
            x.tick();
            due("it stays so", x.part(1, p), 1);
        }
    }

    /** 0 is declared while terminal 0 is on 2 still: the reply goes there, and is gone. */
    private static void byNumbers() {
        sentence("each processor, by numbers");
        MirrorPairs x = new MirrorPairs();
        Scenes.send(x, 0, BEGIN, 0, 0);
        Scenes.hop(x, 2, 0, 1);
        x.fail(0, 2);
        x.fail(0, 0);
        Checks.ticks(x, 5);
        due("the store", x.pair(0, 0), 1);
        due("the terminal", x.pair(1, 0), 3);
        due("no reply to 3", x.link(1, 3, 0), 0);
        due("one request", x.link(3, 1, 0), 1);
    }

    private static void firstOfEachLinkThatWaits() {
        sentence("2. the first message of each link that waits");
        MirrorPairs x = new MirrorPairs();
        putTwo(x);
        x.arrive(2, 3, true);
        due("one is on bus 0", x.link(3, 2, 2), 0);
        x.tick();
        due("that one stays there", x.link(3, 2, 2), 0);
        due("the one that waited is on bus 1", x.link(2, 3, 2), 1);
        x.arrive(2, 3, false);
        due("the one behind it had come on none", x.link(2, 3, 2), 0);
        MirrorPairs y = asked();
        y.request(1, BEGIN, 0, 0);
        y.lose(2, 3);
        y.lose(3, 2);
        y.tick();
        due("by senders", y.link(2, 3, 2), 1);
        due("all of them", y.link(3, 2, 2), 1);
    }

    private static void senderAndReceiverUp() {
        sentence("if its sender and receiver are up");
        for (int p = 2; p < 4; p++) {
            MirrorPairs x = asked();
            x.lose(2, 3);
            x.fail(0, p);
            x.tick();
            due("none comes on a bus", x.link(2, 3, 2), NONE);
            due("none arrives", x.arrive(2, 3, false), 0);
        }
    }

    private static void notTheBusOfLast() {
        sentence("not the one that it was on last, if the other one is up");
        MirrorPairs x = asked();
        for (int round = 1; round < 5; round++) {
            due("lost", x.lose(2, 3) ? 1 : 0, 1);
            x.tick();
            due("the other one", x.link(2, 3, 2), round % 2);
        }
        x.lose(2, 3);
        x.fail(1, 0);
        x.fail(1, 1);
        x.tick();
        due("no bus", x.link(2, 3, 2), NONE);
        x.repair(1, 0);
        x.repair(1, 1);
        x.tick();
        due("the last one is known still", x.link(2, 3, 2), 1);
        MirrorPairs y = new MirrorPairs();
        putTwo(y);
        y.lose(2, 3);
        y.tick();
        y.arrive(2, 3, false);
        due("the next message is on bus 0", y.link(2, 3, 2), 0);
        y.lose(2, 3);
        y.tick();
        due("its own last one counts", y.link(2, 3, 2), 1);
    }

    private static void onNoneBefore() {
        sentence("(bus 0, if it was on none and that is up, else bus 1)");
        for (int bus = 0; bus < 2; bus++) {
            MirrorPairs x = new MirrorPairs();
            x.fail(1, 0);
            x.fail(1, 1);
            x.request(0, BEGIN, 0, 0);
            x.tick();
            due("no bus is up", x.link(2, 3, 2), NONE);
            x.repair(1, 1);
            if (bus == 0) {
                x.repair(1, 0);
            }
            x.tick();
            due("it comes on", x.link(2, 3, 2), bus);
        }
    }

    private static void elseThatOne() {
        sentence("else that one, if it is up");
        MirrorPairs x = asked();
        x.lose(2, 3);
        x.fail(1, 1);
        x.tick();
        due("bus 0 again", x.link(2, 3, 2), 0);
        x.fail(1, 0);
        x.tick();
        due("none is up", x.link(2, 3, 2), NONE);
        x.repair(1, 1);
        x.tick();
        due("bus 1 from bus 0", x.link(2, 3, 2), 1);
        x.lose(2, 3);
        x.tick();
        due("bus 1 again", x.link(2, 3, 2), 1);
    }

    private static void inThisOrder() {
        sentence("then, in this order");
        MirrorPairs x = new MirrorPairs();
        Scenes.flick(x, 3);
        x.fail(0, 2);
        Checks.ticks(x, 4);
        due("not declared yet", x.pair(1, 0), 2);
        x.tick();
        due("lost by 1., restarted by 3.", x.pair(1, 0), 3);
        due("incarnation", x.pair(1, 5), 1);
        MirrorPairs y = new MirrorPairs();
        Scenes.send(y, 0, BEGIN, 0, 0);
        Scenes.hop(y, 2, 0, 1);
        y.fail(0, 0);
        Checks.ticks(y, 4);
        Checks.bounce(y, 2);
        y.tick();
        due("the store has come by 1.", y.pair(0, 0), 1);
        due("the terminal by 3.", y.pair(1, 0), 2);
        due("so there was none to reply to", y.link(1, 2, 0), 0);
    }

    private static void lostPairsRestart() {
        sentence("3. each pair that is LOST (store, terminal 0, terminal 1) RESTARTS, if it can.");
        MirrorPairs x = new MirrorPairs();
        x.fail(0, 2);
        x.fail(0, 3);
        Checks.ticks(x, 6);
        due("no home is up", x.pair(1, 0), NONE);
        x.repair(0, 2);
        due("not before a tick", x.pair(1, 0), NONE);
        x.repair(0, 3);
        x.tick();
        due("terminal 0", x.pair(1, 0), 2);
        due("terminal 1", x.pair(2, 0), 2);
        Scenes.hop(x, 2, 3, 2);
        due("terminal 0 was first", x.pair(1, 1), 3);
        due("terminal 1 was second", x.pair(2, 1), NONE);
        due("the store is not lost", x.pair(0, 7), 1);
        x.tick();
        due("what is not lost does not restart", x.pair(1, 5), 1);
        MirrorPairs y = new MirrorPairs();
        Checks.bounce(y, 0);
        y.fail(2, 0);
        y.fail(2, 1);
        y.tick();
        due("a store without a disc cannot", y.pair(0, 0), NONE);
        y.repair(2, 1);
        y.tick();
        due("with one it can", y.pair(0, 0), 0);
    }
}
