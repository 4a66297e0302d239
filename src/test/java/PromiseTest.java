/** For each promise of the document: ordinary inputs, the edges that it names, wrong inputs. */
public final class PromiseTest {
    private static final int NONE = MirrorPairs.NONE;
    private static final int NO = Integer.MIN_VALUE;
    private static final int BEGIN = 0;
    private static final int READ = 1;
    private static final int WRITE = 2;
    private static final int COMMIT = 3;
    private static final int ABORT = 4;

    public static void main(String[] args) {
        promise1();
        promise2();
        promise2Waiting();
        promise3();
        promise3Buses();
        promise3Restarts();
        promise4();
        promise4Lost();
        promise5();
        promise6();
        promise6Order();
        promise7();
        promise7Writes();
        promise8();
        promise8Declared();
        promise9();
        promise9Copies();
        promise10();
        promise10TakesOver();
        promise11();
        promise11Down();
        promise12();
        promise13();
        promise14();
        promise15();
        results();
        trailRoom();
        backingOut();
        storeRestarts();
        storeTakesOver();
        row();
        sameTick();
        olderBackup();
        copyOfTheStore();
        rowIsGone();
        linksAnew();
        staleTrail();
        laterRestart();
        fullTrailRestart();
        questionsChangeNothing();
        Checks.end("PromiseTest");
    }

    private static void due(String what, long got, long want) {
        Checks.due(what, got, want);
    }

    private static void due(String what, boolean got, boolean want) {
        Checks.due(what, got, want);
    }

    private static void promise1() {
        MirrorPairs x = new MirrorPairs();
        for (int p = 0; p < 4; p++) {
            due("1 up", x.part(0, p), 1);
            due("1 declared", x.part(1, p), 0);
            due("1 silence", x.part(2, p), 0);
            for (int q = 0; q < 4; q++) {
                due("1 messages", x.link(p, q, 0), p == q ? NONE : 0);
                due("1 taken", x.link(p, q, 4), p == q ? NONE : 0);
            }
        }
        for (int k = 0; k < 2; k++) {
            due("1 bus", x.part(10, k), 1);
            due("1 disc", x.part(20, k), 1);
            due("1 current", x.part(21, k), 1);
            due("1 revived", x.part(22, k), NONE);
            due("1 generation", x.disc(k, 16, 0), 1);
            due("1 epoch", x.disc(k, 16, 1), 1);
            due("1 record", x.disc(k, 15, 0), 0);
            due("1 trail", x.disc(k, 17, 0), 0);
            due("1 answer", x.answer(k, 0), NONE);
        }
        int[] store = {0, 1, 0, 0, 0, 0, 0, 1, 1, 0, 0};
        int[] first = {2, 3, 0, 0, 0, 0, 0, 0, 1};
        int[] second = {3, 2, 0, 0, 0, 0, 0, 0, 1};
        facts(x, "1", 0, store);
        facts(x, "1", 1, first);
        facts(x, "1", 2, second);
        due("1 tick", x.part(30, 0), 0);
        due("1 record", x.record(0, 0), 0);
        due("1 lock", x.record(0, 1), NONE);
    }

    private static void facts(MirrorPairs x, String name, int k, int[] want) {
        for (int what = 0; what < want.length; what++) {
            due(name + " pair " + k + ", " + what, x.pair(k, what), want[what]);
        }
    }

    private static void promise2() {
        MirrorPairs x = new MirrorPairs();
        due("2 no such", x.request(2, BEGIN, 0, 0), NONE);
        due("2 no such", x.request(-1, BEGIN, 0, 0), NONE);
        due("2 first", x.request(0, BEGIN, 0, 0), 1);
        due("2 waits for a word", x.pair(1, 3), 1);
        due("2 open", x.pair(1, 7), 1);
        due("2 open", x.request(0, BEGIN, 0, 0), NONE);
        due("2 nothing sent", x.link(2, 0, 0), 0);
        x.arrive(2, 3, false);
        x.arrive(3, 2, false);
        due("2 waits for a reply", x.pair(1, 3), 2);
        due("2 sent", x.link(2, 0, 1), 1);
        due("2 open still", x.request(0, BEGIN, 0, 0), NONE);
        due("2 the other terminal", x.request(1, 77, -5, 9), 1);
        Checks.settle(x);
        due("2 second", x.request(0, READ, 0, 0), 2);
        Checks.settle(x);
        x.fail(0, 2);
        due("2 down", x.request(0, READ, 0, 0), NONE);
        x.fail(0, 3);
        Checks.ticks(x, 5);
        due("2 lost", x.request(0, READ, 0, 0), NONE);
        due("2 lost", x.request(1, READ, 0, 0), NONE);
    }

    private static void promise2Waiting() {
        MirrorPairs x = new MirrorPairs();
        x.request(0, BEGIN, 0, 0);
        x.arrive(2, 3, false);
        x.arrive(3, 2, false);
        x.arrive(2, 0, false);
        x.arrive(0, 1, false);
        x.arrive(1, 0, false);
        x.arrive(0, 2, false);
        due("2 not open", x.pair(1, 7), 0);
        due("2 waits with the answer", x.pair(1, 3), 1);
        due("2 refused while it waits", x.request(0, READ, 0, 0), NONE);
        x.fail(0, 3);
        due("2 waits till it is declared", x.pair(1, 3), 1);
        Checks.ticks(x, 5);
        due("2 goes on without a backup", x.pair(1, 3), 0);
        due("2 shown", x.answer(0, 1), 0);
        due("2 at once without a backup", x.request(0, READ, 0, 0), 2);
        due("2 sent at once", x.link(2, 0, 0), 1);
        x.fail(0, 0);
        x.fail(0, 1);
        Checks.settle(x);
        Checks.ticks(x, 5);
        due("2 store lost", x.pair(0, 0), NONE);
        due("2 sent all the same", x.pair(1, 3), 2);
    }

    private static void promise3() {
        MirrorPairs x = new MirrorPairs();
        due("3 first", x.tick(), 1);
        due("3 second", x.tick(), 2);
        x.fail(0, 0);
        x.fail(1, 0);
        x.fail(1, 1);
        x.tick();
        due("3 no bus, no silence", x.part(2, 0), 0);
        x.repair(1, 1);
        Checks.ticks(x, 4);
        due("3 silence", x.part(2, 0), 4);
        due("3 not declared", x.part(1, 0), 0);
        due("3 primary still", x.pair(0, 0), 0);
        due("3 number", x.tick(), 8);
        due("3 declared", x.part(1, 0), 1);
        due("3 silence", x.part(2, 0), 5);
        due("3 taken over", x.pair(0, 0), 1);
        due("3 no backup", x.pair(0, 1), NONE);
        x.tick();
        due("3 silence stays", x.part(2, 0), 5);
    }

    private static void promise3Buses() {
        MirrorPairs x = new MirrorPairs();
        x.request(0, BEGIN, 0, 0);
        due("3 on bus 0", x.link(2, 3, 2), 0);
        x.fail(1, 0);
        due("3 waits", x.link(2, 3, 2), NONE);
        x.repair(1, 0);
        due("3 waits still", x.link(2, 3, 2), NONE);
        x.tick();
        due("3 the other bus", x.link(2, 3, 2), 1);
        x.lose(2, 3);
        x.tick();
        due("3 the other bus again", x.link(2, 3, 2), 0);
        x.lose(2, 3);
        x.fail(1, 1);
        x.tick();
        due("3 the same bus", x.link(2, 3, 2), 0);
        x.fail(1, 0);
        x.tick();
        due("3 no bus", x.link(2, 3, 2), NONE);
        x.request(1, BEGIN, 0, 0);
        due("3 on none", x.link(3, 2, 2), NONE);
        x.repair(1, 1);
        x.tick();
        due("3 bus 1 from none", x.link(3, 2, 2), 1);
        due("3 bus 1 from 0", x.link(2, 3, 2), 1);
        MirrorPairs y = new MirrorPairs();
        y.fail(1, 0);
        y.request(0, BEGIN, 0, 0);
        due("3 first on bus 1", y.link(2, 3, 2), 1);
        y.fail(1, 1);
        y.request(1, BEGIN, 0, 0);
        y.repair(1, 0);
        y.repair(1, 1);
        y.tick();
        due("3 bus 0 from none", y.link(3, 2, 2), 0);
        due("3 bus 0 from 1", y.link(2, 3, 2), 0);
    }

    private static void promise3Restarts() {
        MirrorPairs x = new MirrorPairs();
        Checks.bounce(x, 2);
        due("3 terminal 0 lost", x.pair(1, 0), NONE);
        due("3 terminal 1 lost", x.pair(2, 0), NONE);
        due("3 no incarnation yet", x.pair(1, 5), 0);
        x.tick();
        due("3 terminal 0 on its first home", x.pair(1, 0), 2);
        due("3 terminal 1 on its first home", x.pair(2, 0), 2);
        due("3 coming", x.pair(2, 2), 1);
        due("3 no backup while coming", x.pair(2, 1), NONE);
        due("3 two copies", x.link(2, 3, 0), 2);
        due("3 copy", x.link(2, 3, 1), 4);
        due("3 incarnation", x.pair(1, 5), 1);
        due("3 epoch", x.pair(1, 8), -1);
        due("3 number", x.pair(1, 6), 0);
        Checks.carry(x);
        due("3 backup", x.pair(1, 1), 3);
        due("3 not coming", x.pair(1, 2), 0);
        x.fail(0, 2);
        x.fail(0, 3);
        Checks.ticks(x, 5);
        x.repair(0, 3);
        x.tick();
        due("3 on the home that is up", x.pair(1, 0), 3);
        due("3 without a copy", x.pair(1, 2), 0);
        due("3 incarnation 2", x.pair(1, 5), 2);
        due("3 silence of a declared one", x.part(2, 2), 5);
    }

    private static void promise4() {
        MirrorPairs x = new MirrorPairs();
        due("4 no such link", x.arrive(0, 0, false), NONE);
        due("4 no such link", x.arrive(-1, 0, false), NONE);
        due("4 no such link", x.arrive(0, 4, true), NONE);
        due("4 none", x.arrive(2, 3, false), 0);
        x.request(0, BEGIN, 0, 0);
        x.lose(2, 3);
        due("4 waits", x.arrive(2, 3, false), 0);
        x.tick();
        due("4 taken", x.arrive(2, 3, false), 1);
        due("4 word", x.link(3, 2, 1), 5);
        due("4 taken latest", x.link(2, 3, 4), 1);
        due("4 gone", x.link(2, 3, 0), 0);
        due("4 word taken", x.arrive(3, 2, false), 1);
        due("4 request", x.arrive(2, 0, false), 1);
        due("4 the store waits", x.pair(0, 3), 1);
        due("4 checkpoint", x.arrive(0, 1, false), 1);
        due("4 word", x.arrive(1, 0, false), 1);
        due("4 the store is free", x.pair(0, 3), 0);
        due("4 reply", x.link(0, 2, 1), 2);
        due("4 reply", x.arrive(0, 2, false), 1);
        due("4 checkpoint of the answer", x.link(2, 3, 1), 3);
        due("4 its number", x.link(2, 3, 3), 2);
        due("4 not shown", x.answer(0, 0), NONE);
        x.arrive(2, 3, false);
        x.arrive(3, 2, false);
        due("4 shown", x.answer(0, 0), 1);
    }

    private static void promise4Lost() {
        MirrorPairs x = new MirrorPairs();
        x.request(0, BEGIN, 0, 0);
        due("4 taken, word lost", x.arrive(2, 3, true), 1);
        due("4 stays", x.link(2, 3, 0), 1);
        due("4 waits", x.link(2, 3, 2), NONE);
        due("4 it did what it brings", x.link(3, 2, 0), 1);
        due("4 not on a bus", x.arrive(2, 3, false), 0);
        x.tick();
        due("4 on the other bus", x.link(2, 3, 2), 1);
        due("4 dropped, lost again", x.arrive(2, 3, true), 2);
        due("4 stays again", x.link(2, 3, 0), 1);
        x.tick();
        due("4 dropped", x.arrive(2, 3, false), 2);
        due("4 gone", x.link(2, 3, 0), 0);
        due("4 one word only", x.link(3, 2, 0), 1);
    }

    private static void promise5() {
        MirrorPairs x = new MirrorPairs();
        due("5 nothing", x.lose(2, 3), false);
        due("5 no such link", x.lose(2, 2), false);
        due("5 no such link", x.lose(2, 4), false);
        due("5 no such link", x.lose(-1, 2), false);
        x.request(0, BEGIN, 0, 0);
        due("5 lost", x.lose(2, 3), true);
        due("5 waits", x.lose(2, 3), false);
        due("5 still there", x.link(2, 3, 0), 1);
        due("5 not taken", x.link(2, 3, 4), 0);
        x.tick();
        due("5 arrives", x.arrive(2, 3, false), 1);
    }

    private static void promise6() {
        MirrorPairs x = new MirrorPairs();
        due("6 nothing to write", x.write(0), NONE);
        due("6 no such disc", x.write(2), NONE);
        x = Scenes.writing(4, 44);
        due("6 no such disc", x.write(-1), NONE);
        due("6 no such disc", x.write(2), NONE);
        due("6 writes", x.pair(0, 3), 2);
        due("6 two writes", x.pair(0, 5), 2);
        due("6 entry", x.write(0), 17);
        due("6 lacking by the other one", x.pair(0, 5), 2);
        due("6 record", x.write(0), 4);
        due("6 no more for this one", x.write(0), NONE);
        due("6 the other disc has nothing yet", x.disc(1, 4, 0), 0);
        due("6 entry", x.write(1), 17);
        due("6 one is lacking", x.pair(0, 5), 1);
        due("6 no reply yet", x.link(0, 2, 0), 0);
        due("6 record", x.write(1), 4);
        due("6 done", x.pair(0, 3), 0);
        due("6 replied", x.link(0, 2, 0), 1);
        due("6 written", x.disc(1, 4, 0), 44);
        x = Scenes.writing(4, 44);
        x.fail(2, 1);
        due("6 down", x.write(1), NONE);
        x.repair(2, 1);
        due("6 not current", x.write(1), NONE);
        x.write(0);
        due("6 not done", x.pair(0, 3), 2);
        x.write(0);
        due("6 done by the current one alone", x.pair(0, 3), 0);
        x = Scenes.writing(4, 44);
        x.fail(0, 0);
        due("6 the store does not write", x.write(0), NONE);
    }

    private static void promise6Order() {
        MirrorPairs x = Scenes.writing(4, 44);
        x.write(0);
        x.write(0);
        x.write(1);
        x.fail(2, 1);
        due("6 done when the slow disc goes", x.pair(0, 3), 0);
        due("6 replied", x.link(0, 2, 0), 1);
        x = Scenes.writing(4, 44);
        x.fail(2, 1);
        x.write(0);
        x.fail(2, 0);
        due("6 no disc: it is not done", x.pair(0, 3), 2);
        due("6 no disc lacks it", x.pair(0, 5), 0);
        x.repair(2, 1);
        due("6 the one that is not current gets nothing", x.write(1), NONE);
        x.repair(2, 0);
        due("6 it goes on where it was", x.write(0), 4);
        due("6 done", x.pair(0, 3), 0);
        x.fail(2, 0);
        x.fail(2, 1);
        Checks.carry(x);
        x.request(0, READ, 4, 0);
        Checks.carry(x);
        due("6 without writes it needs no disc", x.answer(0, 2), 44);
    }

    private static void promise7() {
        MirrorPairs x = new MirrorPairs();
        due("7 none is revived", x.copy(), NONE);
        x.fail(2, 0);
        due("7 it is down", x.copy(), NONE);
        x.repair(2, 0);
        for (int block = 0; block < 48; block++) {
            due("7 next", x.part(22, 0), block);
            due("7 block", x.copy(), block);
        }
        due("7 not current yet", x.part(21, 0), 0);
        due("7 last", x.copy(), 48);
        due("7 current", x.part(21, 0), 1);
        due("7 not revived", x.part(22, 0), NONE);
        due("7 none", x.copy(), NONE);
        x.fail(2, 1);
        x.repair(2, 1);
        x.copy();
        x.copy();
        x.fail(2, 0);
        due("7 the last one stays current", x.part(21, 0), 1);
        due("7 not while the other one is down", x.copy(), NONE);
        due("7 not revived now", x.part(22, 1), NONE);
        x.repair(2, 0);
        due("7 it goes on where it was", x.copy(), 2);
        x.fail(2, 1);
        x.repair(2, 1);
        due("7 from block 0 on", x.copy(), 0);
    }

    private static void promise7Writes() {
        MirrorPairs x = new MirrorPairs();
        Checks.ask(x, 0, BEGIN, 0, 0);
        x.fail(2, 1);
        x.repair(2, 1);
        for (int block = 0; block <= 16; block++) {
            x.copy();
        }
        x.request(0, WRITE, 3, 33);
        Checks.carry(x);
        due("7 entry", x.write(0), 17);
        due("7 a block that was not copied", x.disc(1, 17, 1), 0);
        due("7 record", x.write(0), 3);
        due("7 a block that was copied", x.disc(1, 3, 0), 33);
        due("7 done by one", x.pair(0, 3), 0);
        Checks.carry(x);
        x.request(0, WRITE, 5, 55);
        Checks.carry(x);
        due("7 first of two", x.write(0), 18);
        for (int block = 17; block < 49; block++) {
            x.copy();
        }
        due("7 copied with the rest", x.disc(1, 18, 4), 0);
        due("7 copied entry", x.disc(1, 18, 1), 1);
        due("7 current", x.part(21, 1), 1);
        due("7 it has what the other one has", x.write(1), 5);
        due("7 not done", x.pair(0, 3), 2);
        due("7 the other one", x.write(0), 5);
        due("7 done", x.pair(0, 3), 0);
    }

    private static void promise8() {
        MirrorPairs x = new MirrorPairs();
        int[] counts = {4, 2, 2};
        for (int what = -1; what < 4; what++) {
            due("8 none such", x.fail(what, -1), false);
            due("8 none such", x.fail(what, what >= 0 && what < 3 ? counts[what] : 0), false);
        }
        due("8 bus", x.fail(1, 1), true);
        due("8 bus is down", x.fail(1, 1), false);
        due("8 bus", x.part(10, 1), 0);
        due("8 disc", x.fail(2, 0), true);
        due("8 disc is down", x.fail(2, 0), false);
        due("8 not current", x.part(21, 0), 0);
        due("8 the other disc", x.fail(2, 1), true);
        due("8 current still", x.part(21, 1), 1);
        x.request(0, BEGIN, 0, 0);
        due("8 there is a message", x.link(2, 3, 0), 1);
        due("8 processor", x.fail(0, 3), true);
        due("8 processor is down", x.fail(0, 3), false);
        due("8 links are empty", x.link(2, 3, 0), 0);
        due("8 up", x.part(0, 3), 0);
        due("8 backup still", x.pair(1, 1), 3);
        due("8 primary still", x.pair(2, 0), 3);
    }

    private static void promise8Declared() {
        MirrorPairs x = new MirrorPairs();
        x.request(0, BEGIN, 0, 0);
        x.arrive(2, 3, false);
        x.arrive(3, 2, false);
        x.request(1, BEGIN, 0, 0);
        x.arrive(3, 2, false);
        due("8 the word", x.link(2, 3, 1), 5);
        x.fail(0, 2);
        due("8 the word is gone", x.link(2, 3, 0), 0);
        due("8 numbers anew", x.link(2, 3, 4), 0);
        Checks.ticks(x, 4);
        due("8 it waits", x.pair(2, 3), 1);
        due("8 nothing sent", x.link(3, 0, 0), 0);
        x.tick();
        due("8 terminal 0 is there", x.pair(1, 0), 3);
        due("8 both requests are sent", x.link(3, 0, 0), 2);
        due("8 it goes on", x.pair(2, 3), 2);
        x.arrive(3, 0, false);
        due("8 the one that took over was first", x.pair(0, 3), 1);
        Checks.settle(x);
        due("8 answered", x.answer(0, 1), 0);
        due("8 answered", x.answer(1, 1), 0);
        x.fail(0, 3);
        Checks.ticks(x, 5);
        due("8 lost", x.pair(1, 0), NONE);
        due("8 no backup", x.pair(1, 1), NONE);
    }

    private static void promise9() {
        MirrorPairs x = new MirrorPairs();
        for (int what = -1; what < 4; what++) {
            due("9 up or none such", x.repair(what, 0), false);
            due("9 none such", x.repair(what, 9), false);
            due("9 none such", x.repair(what, -1), false);
        }
        x.fail(1, 0);
        due("9 bus", x.repair(1, 0), true);
        due("9 bus is up", x.repair(1, 0), false);
        x.fail(2, 1);
        due("9 disc", x.repair(2, 1), true);
        due("9 disc is up", x.part(20, 1), 1);
        due("9 not current", x.part(21, 1), 0);
        due("9 revived", x.part(22, 1), 0);
        x.fail(0, 0);
        Checks.ticks(x, 2);
        due("9 processor", x.repair(0, 0), true);
        due("9 it is up", x.part(0, 0), 1);
        due("9 not declared", x.part(1, 0), 0);
        due("9 silence stays", x.part(2, 0), 2);
        due("9 it was declared first", x.pair(0, 0), 1);
        due("9 a copy", x.link(1, 0, 1), 4);
        due("9 coming", x.pair(0, 2), 1);
        x.fail(0, 0);
        due("9 silence anew", x.part(2, 0), 0);
    }

    private static void promise9Copies() {
        MirrorPairs x = new MirrorPairs();
        x.fail(0, 3);
        x.repair(0, 3);
        due("9 terminal 1 took over", x.pair(2, 0), 2);
        due("9 two copies", x.link(2, 3, 0), 2);
        due("9 told", x.pair(1, 4), 1);
        x.request(0, BEGIN, 0, 0);
        due("9 not told while it is coming", x.pair(1, 4), 1);
        due("9 sent at once", x.link(2, 0, 0), 1);
        x.arrive(2, 3, false);
        x.arrive(3, 2, false);
        due("9 a new copy", x.pair(1, 4), 2);
        due("9 coming still", x.pair(1, 2), 1);
        x.arrive(2, 3, false);
        x.arrive(3, 2, false);
        due("9 terminal 1 has one", x.pair(2, 1), 3);
        due("9 not told", x.pair(2, 4), 1);
        x.arrive(2, 3, false);
        x.arrive(3, 2, false);
        due("9 terminal 0 has one", x.pair(1, 1), 3);
        x.fail(0, 2);
        x.repair(0, 2);
        due("9 it has the open request", x.pair(1, 7), 1);
        due("9 sent again", x.link(3, 0, 0), 1);
        x = new MirrorPairs();
        x.fail(0, 0);
        x.fail(0, 1);
        x.repair(0, 1);
        due("9 the primary is down: no copy", x.pair(0, 2), 0);
        due("9 no backup", x.pair(0, 1), NONE);
        x.repair(0, 0);
        due("9 lost", x.pair(0, 0), NONE);
    }

    private static void promise10() {
        MirrorPairs x = new MirrorPairs();
        due("10 without one", x.answer(0, 0), NONE);
        Checks.ask(x, 0, BEGIN, 0, 0);
        Checks.ask(x, 0, WRITE, 2, -7);
        Checks.ask(x, 0, READ, 2, 0);
        due("10 number", x.answer(0, 0), 3);
        due("10 result", x.answer(0, 1), 0);
        due("10 int", x.answer(0, 2), -7);
        due("10 epoch", x.answer(0, 3), 1);
        due("10 others", x.answer(0, 4), NONE);
        due("10 others", x.answer(0, -1), NONE);
        due("10 no such", x.answer(2, 0), NONE);
        due("10 no such", x.answer(-1, 0), NONE);
        due("10 the other one", x.answer(1, 0), NONE);
        x.request(0, COMMIT, 0, 0);
        due("10 shown still", x.answer(0, 2), -7);
        x.fail(0, 2);
        due("10 down", x.answer(0, 0), NONE);
        Checks.ticks(x, 5);
        due("10 taken over", x.answer(0, 0), 3);
        x.fail(0, 3);
        Checks.ticks(x, 5);
        due("10 lost", x.answer(0, 0), NONE);
        x.repair(0, 2);
        x.tick();
        due("10 restarted", x.answer(0, 0), NONE);
    }

    private static void promise10TakesOver() {
        MirrorPairs x = new MirrorPairs();
        x.request(0, BEGIN, 0, 0);
        x.arrive(2, 3, false);
        x.arrive(3, 2, false);
        x.arrive(2, 0, false);
        x.arrive(0, 1, false);
        x.arrive(1, 0, false);
        x.arrive(0, 2, false);
        x.arrive(2, 3, false);
        due("10 not shown before the word", x.answer(0, 0), NONE);
        x.fail(0, 2);
        Checks.ticks(x, 5);
        due("10 shown by what took over", x.answer(0, 0), 1);
        due("10 nothing to do", x.pair(1, 3), 0);
        due("10 its request is not sent again", x.link(3, 0, 0), 0);
    }

    private static void promise11() {
        MirrorPairs x = new MirrorPairs();
        for (int what = -1; what < 12; what++) {
            due("11 no such pair", x.pair(-1, what), NONE);
            due("11 no such pair", x.pair(3, what), NONE);
        }
        for (int k = 0; k < 3; k++) {
            due("11 others", x.pair(k, -1), NONE);
            due("11 others", x.pair(k, k == 0 ? 11 : 9), NONE);
        }
        Checks.ask(x, 0, BEGIN, 0, 0);
        Checks.ask(x, 1, BEGIN, 0, 0);
        Checks.ask(x, 0, WRITE, 1, 10);
        facts(x, "11", 0, new int[] {0, 1, 0, 0, 3, 0, 0, 1, 1, 1, 2});
        facts(x, "11", 1, new int[] {2, 3, 0, 0, 4, 0, 2, 0, 1});
        x.request(1, WRITE, 2, 20);
        x.arrive(3, 2, false);
        x.arrive(2, 3, false);
        x.arrive(3, 0, false);
        facts(x, "11", 0, new int[] {0, 1, 0, 1, 4, 0, 0, 1, 1, 2, 2});
        Checks.carry(x);
        facts(x, "11", 0, new int[] {0, 1, 0, 2, 4, 2, 0, 1, 1, 2, 2});
        facts(x, "11", 2, new int[] {3, 2, 0, 2, 3, 0, 2, 1, 1});
        Checks.settle(x);
        Checks.ask(x, 0, COMMIT, 0, 0);
        facts(x, "11", 0, new int[] {0, 1, 0, 0, 5, 0, 0, 1, 1, 3, 1});
        Checks.ask(x, 1, COMMIT, 0, 0);
        facts(x, "11", 0, new int[] {0, 1, 0, 0, 6, 0, 0, 1, 2, 0, 0});
    }

    private static void promise11Down() {
        MirrorPairs x = new MirrorPairs();
        Checks.ask(x, 0, BEGIN, 0, 0);
        x.fail(0, 0);
        facts(x, "11 down", 0, new int[] {0, 1, 0, NONE, 1, NONE, NONE, NONE, NONE, NONE, NONE});
        x.fail(0, 2);
        facts(x, "11 down", 1, new int[] {2, 3, 0, NONE, 2, 0, NONE, NONE, NONE});
        x.fail(0, 1);
        x.fail(0, 3);
        Checks.ticks(x, 5);
        facts(x, "11 lost", 0, new int[] {NONE, NONE, 0, NONE, 1, NONE, NONE, NONE, NONE, NONE, NONE});
        facts(x, "11 lost", 1, new int[] {NONE, NONE, 0, NONE, 2, 0, NONE, NONE, NONE});
        x.repair(0, 2);
        x.tick();
        facts(x, "11 restarted", 1, new int[] {2, NONE, 0, 0, 2, 1, 0, 0, -1});
        x.repair(0, 3);
        facts(x, "11 coming", 1, new int[] {2, NONE, 1, 0, 3, 1, 0, 0, -1});
    }

    private static void promise12() {
        MirrorPairs x = new MirrorPairs();
        int[] others = {-1, 3, 9, 11, 19, 23, 29, 31};
        for (int what : others) {
            due("12 others " + what, x.part(what, 0), NONE);
        }
        int[] known = {0, 1, 2, 10, 20, 21, 22};
        for (int what : known) {
            due("12 no such " + what, x.part(what, -1), NONE);
            due("12 no such " + what, x.part(what, what < 3 ? 4 : 2), NONE);
        }
        x.tick();
        due("12 the tick", x.part(30, 0), 1);
        x.fail(0, 3);
        x.tick();
        due("12 down", x.part(0, 3), 0);
        due("12 silence", x.part(2, 3), 1);
        due("12 not declared", x.part(1, 3), 0);
        Checks.ticks(x, 4);
        due("12 declared", x.part(1, 3), 1);
        x.fail(1, 1);
        due("12 bus down", x.part(10, 1), 0);
        due("12 bus up", x.part(10, 0), 1);
        x.fail(2, 1);
        due("12 disc down", x.part(20, 1), 0);
        due("12 disc not current", x.part(21, 1), 0);
        due("12 not revived", x.part(22, 1), NONE);
        x.repair(2, 1);
        x.copy();
        due("12 next block", x.part(22, 1), 1);
    }

    private static void promise13() {
        MirrorPairs x = new MirrorPairs();
        for (int what = -1; what < 6; what++) {
            due("13 no such link", x.link(1, 1, what), NONE);
            due("13 no such link", x.link(4, 1, what), NONE);
            due("13 no such link", x.link(1, -1, what), NONE);
            due("13 no first one", x.link(0, 1, what), what == 0 || what == 4 ? 0 : NONE);
        }
        x.request(0, BEGIN, 0, 0);
        due("13 others", x.link(2, 3, 5), NONE);
        due("13 others", x.link(2, 3, -1), NONE);
        due("13 checkpoint", x.link(2, 3, 1), 3);
        x.request(1, BEGIN, 0, 0);
        x.arrive(3, 2, false);
        due("13 a word behind it", x.link(2, 3, 0), 2);
        due("13 number", x.link(2, 3, 3), 1);
        x.arrive(2, 3, false);
        due("13 the next one is first", x.link(2, 3, 1), 5);
        due("13 on a bus", x.link(2, 3, 2), 0);
        due("13 number", x.link(2, 3, 3), 2);
        due("13 taken", x.link(2, 3, 4), 1);
        x.fail(1, 0);
        x.arrive(2, 3, false);
        due("13 it waits: it is there", x.link(2, 3, 0), 1);
        x.tick();
        x.arrive(2, 3, false);
        due("13 request on bus 1", x.link(3, 0, 2), 1);
        due("13 request", x.link(3, 0, 1), 1);
    }

    private static void promise14() {
        MirrorPairs x = Scenes.writing(9, 99);
        Checks.settle(x);
        for (int d = 0; d < 2; d++) {
            due("14 record", x.disc(d, 9, 0), 99);
            due("14 no such word", x.disc(d, 9, 1), NO);
            due("14 epoch", x.disc(d, 16, 1), 1);
            due("14 no such word", x.disc(d, 16, 2), NO);
            int[] entry = {1, 1, 0, 9, 0, NO};
            for (int word = 0; word < entry.length; word++) {
                due("14 entry", x.disc(d, 17, word), entry[word]);
            }
            due("14 last block", x.disc(d, 48, 4), 0);
            due("14 no such block", x.disc(d, 49, 0), NO);
            due("14 no such block", x.disc(d, -1, 0), NO);
            due("14 no such word", x.disc(d, 17, -1), NO);
        }
        due("14 no such disc", x.disc(2, 0, 0), NO);
        due("14 no such disc", x.disc(-1, 0, 0), NO);
        x.fail(2, 0);
        due("14 a disc that is down keeps its ints", x.disc(0, 9, 0), 99);
    }

    private static void promise15() {
        MirrorPairs x = Scenes.writing(9, 99);
        due("15 int", x.record(9, 0), 99);
        due("15 lock", x.record(9, 1), 0);
        due("15 no lock", x.record(8, 1), NONE);
        due("15 others", x.record(9, 2), NO);
        due("15 others", x.record(9, -1), NO);
        due("15 no such", x.record(16, 0), NO);
        due("15 no such", x.record(-1, 1), NO);
        x.fail(0, 0);
        due("15 down", x.record(9, 0), NO);
        Checks.ticks(x, 5);
        due("15 taken over", x.record(9, 0), 99);
        x.fail(0, 1);
        Checks.ticks(x, 5);
        due("15 lost", x.record(9, 1), NO);
    }

    private static void results() {
        MirrorPairs x = new MirrorPairs();
        due("no transaction", Checks.ask(x, 0, READ, 0, 0), -2);
        due("no transaction before no record", Checks.ask(x, 0, WRITE, 16, 0), -2);
        due("no transaction", Checks.ask(x, 0, COMMIT, 0, 0), -2);
        due("no transaction", Checks.ask(x, 0, ABORT, 0, 0), -2);
        due("other kinds", Checks.ask(x, 0, 5, 0, 0), -5);
        due("other kinds", Checks.ask(x, 0, -1, 0, 0), -5);
        due("begin", Checks.ask(x, 0, BEGIN, 99, 0), 0);
        due("begin again", Checks.ask(x, 0, BEGIN, 0, 0), -1);
        due("no such record", Checks.ask(x, 0, READ, 16, 0), -5);
        due("no such record", Checks.ask(x, 0, WRITE, -1, 0), -5);
        due("write", Checks.ask(x, 0, WRITE, 0, 5), 0);
        due("begin", Checks.ask(x, 1, BEGIN, 0, 0), 0);
        due("locked", Checks.ask(x, 1, READ, 0, 0), -3);
        due("locked has no int", x.answer(1, 2), 0);
        due("locked", Checks.ask(x, 1, WRITE, 0, 6), -3);
        due("read", Checks.ask(x, 1, READ, 1, 0), 0);
        due("a read locks", x.record(1, 1), 1);
        due("locked by a read", Checks.ask(x, 0, WRITE, 1, 1), -3);
        due("commit", Checks.ask(x, 0, COMMIT, 0, 0), 0);
        due("its lock is free", x.record(0, 1), NONE);
        due("the other lock stays", x.record(1, 1), 1);
        due("kind 2", x.disc(0, 18, 1), 2);
        due("no record in it", x.disc(0, 18, 3), 0);
        due("the generation stays", x.pair(0, 8), 1);
        due("read", Checks.ask(x, 1, READ, 0, 0), 0);
        due("the int", x.answer(1, 2), 5);
        due("abort", Checks.ask(x, 1, ABORT, 0, 0), 0);
        due("kind 3", x.disc(1, 19, 1), 3);
        due("of terminal 1", x.disc(1, 19, 2), 1);
        due("the generation rises", x.disc(1, 16, 0), 2);
        due("the trail is empty", x.pair(0, 9), 0);
        due("committed", x.record(0, 0), 5);
    }

    private static void trailRoom() {
        MirrorPairs x = new MirrorPairs();
        Checks.ask(x, 0, BEGIN, 0, 0);
        for (int k = 0; k < 30; k++) {
            due("write " + k, Checks.ask(x, 0, WRITE, k % 4, k), 0);
        }
        due("begin with room for both ends", Checks.ask(x, 1, BEGIN, 0, 0), 0);
        due("no room", Checks.ask(x, 1, WRITE, 9, 1), -4);
        due("the lock is taken all the same", x.record(9, 1), 1);
        due("no room", Checks.ask(x, 0, WRITE, 0, 1), -4);
        due("abort", Checks.ask(x, 1, ABORT, 0, 0), 0);
        due("entries", x.pair(0, 9), 31);
        due("no room to begin", Checks.ask(x, 1, BEGIN, 0, 0), -4);
        due("no room to write", Checks.ask(x, 0, WRITE, 0, 1), -4);
        due("commit", Checks.ask(x, 0, COMMIT, 0, 0), 0);
        due("the last block", x.disc(0, 48, 1), 2);
        due("empty", x.pair(0, 9), 0);
        due("begin", Checks.ask(x, 1, BEGIN, 0, 0), 0);
        MirrorPairs y = new MirrorPairs();
        Checks.ask(y, 0, BEGIN, 0, 0);
        for (int k = 0; k < 31; k++) {
            due("write " + k, Checks.ask(y, 0, WRITE, 0, k), 0);
        }
        due("no room for one more", Checks.ask(y, 0, WRITE, 0, 31), -4);
        due("no room to begin", Checks.ask(y, 1, BEGIN, 0, 0), -4);
        due("abort", Checks.ask(y, 0, ABORT, 0, 0), 0);
        due("as before", y.disc(0, 0, 0), 0);
    }

    private static void backingOut() {
        MirrorPairs x = new MirrorPairs();
        Checks.ask(x, 0, BEGIN, 0, 0);
        Checks.ask(x, 1, BEGIN, 0, 0);
        Checks.ask(x, 0, WRITE, 1, 11);
        Checks.ask(x, 0, COMMIT, 0, 0);
        Checks.ask(x, 0, BEGIN, 0, 0);
        Checks.ask(x, 0, WRITE, 1, 12);
        Checks.ask(x, 1, WRITE, 5, 50);
        Checks.ask(x, 0, WRITE, 2, 20);
        Checks.ask(x, 0, WRITE, 1, 13);
        due("entries", x.pair(0, 9), 6);
        x.request(0, ABORT, 0, 0);
        Checks.carry(x);
        due("the first entry of record 2 is later", x.write(0), 2);
        due("then record 1", x.write(0), 1);
        due("then the entry", x.write(0), 23);
        due("a transaction is left", x.write(0), NONE);
        Checks.settle(x);
        due("record 1", x.disc(1, 1, 0), 11);
        due("record 2", x.disc(1, 2, 0), 0);
        due("record 5", x.disc(1, 5, 0), 50);
        due("kind 3", x.disc(1, 23, 1), 3);
        due("its lock is free", x.record(1, 1), NONE);
        due("the other lock is not", x.record(5, 1), 1);
        due("lost transactions of a new incarnation", x.pair(0, 10), 1);
        Checks.bounce(x, 2);
        x.tick();
        due("outdated", Checks.ask(x, 1, READ, 5, 0), -9);
        due("backed out", x.record(5, 0), 0);
        due("no transactions", x.pair(0, 10), 0);
        due("the generation rose", x.disc(0, 16, 0), 2);
        due("the epoch is known", x.pair(2, 8), 1);
        due("begin", Checks.ask(x, 1, BEGIN, 0, 0), 0);
    }

    private static void storeRestarts() {
        MirrorPairs x = new MirrorPairs();
        Checks.ask(x, 0, BEGIN, 0, 0);
        Checks.ask(x, 0, WRITE, 1, 11);
        Checks.ask(x, 1, BEGIN, 0, 0);
        Checks.ask(x, 1, WRITE, 2, 22);
        Checks.ask(x, 1, COMMIT, 0, 0);
        x.request(0, READ, 1, 0);
        Checks.bounce(x, 0);
        Checks.carry(x);
        due("sent to none", x.pair(1, 3), 2);
        x.fail(2, 0);
        x.fail(2, 1);
        x.repair(2, 0);
        x.tick();
        due("no disc is up and current", x.pair(0, 0), NONE);
        x.repair(2, 1);
        x.tick();
        due("restarted", x.pair(0, 0), 0);
        due("coming", x.pair(0, 2), 1);
        due("writes", x.pair(0, 3), 2);
        due("epoch", x.pair(0, 7), 2);
        due("generation", x.pair(0, 8), 2);
        due("backed out", x.record(1, 0), 0);
        due("committed", x.record(2, 0), 22);
        due("revived goes on", x.part(22, 0), 0);
        due("three writes", x.pair(0, 5), 3);
        due("record", x.write(1), 1);
        due("entry", x.write(1), 20);
        due("nothing sent again yet", x.link(2, 0, 0), 0);
        due("head", x.write(1), 16);
        due("done", x.pair(0, 3), 0);
        due("sent again", x.link(2, 0, 0), 1);
        due("epoch on the disc", x.disc(1, 16, 1), 2);
        due("generation on the disc", x.disc(1, 16, 0), 2);
        Checks.settle(x);
        due("outdated", x.answer(0, 1), -9);
        due("the new epoch", x.answer(0, 3), 2);
        due("begin", Checks.ask(x, 0, BEGIN, 0, 0), 0);
        due("terminal 1 has the old epoch", Checks.ask(x, 1, BEGIN, 0, 0), -9);
        MirrorPairs y = new MirrorPairs();
        Checks.bounce(y, 0);
        y.tick();
        due("the lower disc stays current", y.part(21, 0), 1);
        due("the other one is so no more", y.part(21, 1), 0);
        due("from block 0 on", y.part(22, 1), 0);
        due("the head alone", y.write(0), 16);
        due("done", y.pair(0, 3), 0);
    }

    private static void storeTakesOver() {
        MirrorPairs x = Scenes.writing(3, 30);
        x.write(0);
        x.write(0);
        x.fail(0, 0);
        Checks.ticks(x, 5);
        due("it writes anew", x.write(0), 17);
        due("all", x.pair(0, 5), 2);
        due("sent again", x.link(2, 1, 0), 1);
        due("taken", x.arrive(2, 1, false), 1);
        due("dropped, as it is being done", x.pair(0, 6), 0);
        Checks.writeAll(x);
        due("one reply", x.link(1, 2, 0), 1);
        Checks.settle(x);
        due("result", x.answer(0, 1), 0);
        MirrorPairs y = new MirrorPairs();
        Checks.bounce(y, 0);
        y.request(0, BEGIN, 0, 0);
        Checks.carry(y);
        y.tick();
        Checks.carry(y);
        due("a backup that knows of the restart", y.pair(0, 1), 1);
        y.fail(0, 0);
        Checks.ticks(y, 5);
        due("sent at the taking over", y.link(2, 1, 0), 1);
        due("it writes", y.pair(0, 3), 2);
        y.write(0);
        due("done", y.pair(0, 3), 0);
        due("not sent once more", y.link(2, 1, 0), 1);
    }

    private static void row() {
        MirrorPairs x = Scenes.writing(3, 30);
        int[] want = {2, 4, 6, 8, 8};
        for (int standing : want) {
            Checks.bounce(x, 2);
            x.tick();
            x.request(0, BEGIN, 0, 0);
            x.request(1, BEGIN, 0, 0);
            Checks.carry(x);
            due("the row", x.pair(0, 6), standing);
        }
        Checks.settle(x);
        due("all are done", x.pair(0, 6), 0);
        due("the fifth ones were dropped", x.pair(1, 7), 1);
        due("it does nothing", x.pair(0, 3), 0);
        MirrorPairs y = Scenes.writing(3, 30);
        y.request(1, BEGIN, 0, 0);
        Checks.carry(y);
        due("it stands there", y.pair(0, 6), 1);
        y.fail(0, 3);
        Checks.ticks(y, 5);
        due("sent again", y.link(2, 0, 0), 1);
        Checks.carry(y);
        due("it stands there once", y.pair(0, 6), 1);
    }

    /** Processor 0 is declared before processor 2 is: the store's reply still goes to 2, and is gone. */
    private static void sameTick() {
        MirrorPairs x = new MirrorPairs();
        x.request(0, BEGIN, 0, 0);
        x.arrive(2, 3, false);
        x.arrive(3, 2, false);
        x.arrive(2, 0, false);
        x.arrive(0, 1, false);
        x.fail(0, 0);
        x.fail(0, 2);
        Checks.ticks(x, 5);
        due("same tick: the store", x.pair(0, 0), 1);
        due("same tick: the terminal", x.pair(1, 0), 3);
        due("same tick: the reply is gone", x.link(1, 3, 0), 0);
        due("same tick: the request is sent again", x.link(3, 1, 0), 1);
        MirrorPairs y = new MirrorPairs();
        y.request(0, BEGIN, 0, 0);
        due("on bus 0", y.link(2, 3, 2), 0);
        y.tick();
        due("a tick leaves it on its bus", y.link(2, 3, 2), 0);
    }

    private static void olderBackup() {
        MirrorPairs x = new MirrorPairs();
        Checks.ask(x, 0, BEGIN, 0, 0);
        x.request(0, WRITE, 6, 60);
        x.arrive(2, 3, false);
        x.arrive(3, 2, false);
        x.arrive(2, 0, false);
        due("older: the primary has it", x.record(6, 0), 60);
        x.fail(0, 0);
        Checks.ticks(x, 5);
        due("older: the backup has it not", x.record(6, 0), 0);
        due("older: nor the lock", x.record(6, 1), NONE);
        due("older: it replies to the one before", x.link(1, 2, 0), 1);
        Checks.settle(x);
        due("older: done after all", x.disc(0, 6, 0), 60);
        due("older: shown", x.answer(0, 0), 2);
        x.request(0, READ, 6, 0);
        due("older: the third", x.pair(1, 6), 3);
        x.fail(0, 2);
        Checks.ticks(x, 5);
        due("older: the backup knows of two", x.pair(1, 6), 2);
        due("older: none is open", x.pair(1, 7), 0);
        due("older: the third again", x.request(0, READ, 6, 0), 3);
        MirrorPairs y = new MirrorPairs();
        Checks.ask(y, 0, BEGIN, 0, 0);
        y.request(0, READ, 0, 0);
        int[] way = {2, 3, 2, 0, 1, 0, 2};
        for (int k = 0; k + 1 < way.length; k++) {
            y.arrive(way[k], way[k + 1], false);
        }
        due("older: the answer has come", y.pair(1, 7), 0);
        y.fail(0, 2);
        Checks.ticks(y, 5);
        due("older: the backup knows no answer", y.pair(1, 7), 1);
        due("older: shown is the first one", y.answer(0, 0), 1);
        due("older: sent again", y.link(3, 0, 0), 1);
        Checks.settle(y);
        due("older: shown is the second one", y.answer(0, 0), 2);
    }

    /** A store that waited goes on before it sends a copy, so the copy is of one that does nothing. */
    private static void copyOfTheStore() {
        MirrorPairs x = new MirrorPairs();
        x.request(0, BEGIN, 0, 0);
        x.arrive(2, 3, false);
        x.arrive(3, 2, false);
        x.fail(0, 1);
        x.arrive(2, 0, false);
        due("copy: it waits", x.pair(0, 3), 1);
        due("copy: told all the same", x.pair(0, 4), 1);
        x.repair(0, 1);
        due("copy: it went on", x.link(0, 2, 0), 1);
        due("copy: told", x.pair(0, 4), 2);
        Checks.carry(x);
        due("copy: backup", x.pair(0, 1), 1);
        x.fail(0, 0);
        Checks.ticks(x, 5);
        due("copy: nothing is being done", x.link(1, 2, 0), 0);
        due("copy: the transaction is there", x.pair(0, 10), 1);
        x.repair(0, 0);
        due("copy: coming", x.pair(0, 2), 1);
        Checks.ask(x, 1, BEGIN, 0, 0);
        due("copy: a new one was sent", x.pair(0, 4), 4);
        due("copy: backup again", x.pair(0, 1), 0);
        x.fail(0, 1);
        Checks.ticks(x, 5);
        due("copy: of the later state", x.pair(0, 10), 2);
        x = Scenes.writing(3, 30);
        Checks.settle(x);
        x.fail(0, 1);
        x.repair(0, 1);
        Checks.carry(x);
        x.fail(0, 0);
        x.repair(0, 0);
        due("copy: taken over", x.pair(0, 0), 1);
        due("copy: with no writes to do anew", x.pair(0, 3), 0);
    }

    private static void rowIsGone() {
        MirrorPairs x = Scenes.writing(3, 30);
        x.request(1, BEGIN, 0, 0);
        Checks.carry(x);
        due("row: one", x.pair(0, 6), 1);
        x.fail(0, 0);
        x.repair(0, 0);
        due("row: gone", x.pair(0, 6), 0);
        due("row: sent again", x.link(3, 1, 0), 1);
    }

    private static void linksAnew() {
        MirrorPairs x = new MirrorPairs();
        Checks.ask(x, 0, BEGIN, 0, 0);
        due("links: nothing to lose", x.lose(2, 3), false);
        x.request(0, READ, 0, 0);
        due("links: number", x.link(2, 3, 3), 3);
        x.fail(0, 3);
        due("links: nothing to lose", x.lose(2, 3), false);
        due("links: nothing arrives", x.arrive(2, 3, false), 0);
        x.repair(0, 3);
        due("links: numbers from 1 on", x.link(2, 3, 3), 1);
        due("links: two copies", x.link(2, 3, 0), 2);
        x.lose(2, 3);
        x.tick();
        due("links: on bus 1", x.link(2, 3, 2), 1);
        x.arrive(2, 3, false);
        due("links: the next one is on bus 0", x.link(2, 3, 2), 0);
    }

    /** Entries of an earlier generation count no more. */
    private static void staleTrail() {
        MirrorPairs x = new MirrorPairs();
        Checks.ask(x, 0, BEGIN, 0, 0);
        Checks.ask(x, 0, WRITE, 1, 10);
        Checks.ask(x, 0, COMMIT, 0, 0);
        Checks.ask(x, 0, BEGIN, 0, 0);
        Checks.ask(x, 0, ABORT, 0, 0);
        due("stale: nothing was written", x.record(1, 0), 10);
        due("stale: generation", x.pair(0, 8), 3);
        Checks.ask(x, 0, BEGIN, 0, 0);
        Checks.ask(x, 0, WRITE, 2, 20);
        Checks.ask(x, 0, ABORT, 0, 0);
        due("stale: backed out", x.record(2, 0), 0);
        due("stale: committed", x.record(1, 0), 10);
    }

    private static void laterRestart() {
        MirrorPairs x = new MirrorPairs();
        for (int k = 0; k < 3; k++) {
            Checks.ask(x, 0, BEGIN, 0, 0);
            Checks.ask(x, 0, COMMIT, 0, 0);
        }
        Checks.ask(x, 0, BEGIN, 0, 0);
        Checks.ask(x, 1, BEGIN, 0, 0);
        Checks.ask(x, 1, WRITE, 8, 80);
        Checks.ask(x, 0, WRITE, 7, 70);
        Checks.bounce(x, 0);
        x.tick();
        due("later: epoch", x.pair(0, 7), 2);
        due("later: generation", x.pair(0, 8), 5);
        due("later: transactions", x.pair(0, 10), 0);
        due("later: the trail", x.pair(0, 9), 0);
        int[] blocks = {7, 19, 8, 20, 16, NONE};
        for (int block : blocks) {
            due("later: terminal 0, then 1, the head once", x.write(0), block);
        }
        due("later: of terminal 0", x.disc(0, 19, 2), 0);
        due("later: with the old generation", x.disc(0, 20, 0), 4);
        for (int block = 0; block < 49; block++) {
            x.copy();
        }
        due("later: both are current", x.part(21, 1), 1);
        Checks.bounce(x, 0);
        x.tick();
        due("later: epoch", x.pair(0, 7), 3);
        due("later: revived anew", x.part(22, 1), 0);
        Checks.bounce(x, 0);
        x.copy();
        x.tick();
        due("later: the epoch was not written", x.pair(0, 7), 3);
        due("later: the reviving goes on", x.part(22, 1), 1);
    }

    private static void fullTrailRestart() {
        MirrorPairs x = new MirrorPairs();
        Checks.ask(x, 0, BEGIN, 0, 0);
        for (int k = 0; k < 31; k++) {
            Checks.ask(x, 0, WRITE, 0, k + 1);
        }
        x.request(0, COMMIT, 0, 0);
        Checks.carry(x);
        due("full: the last block", x.write(0), 48);
        Checks.bounce(x, 0);
        x.tick();
        due("full: committed", x.record(0, 0), 31);
        due("full: the head alone", x.pair(0, 5), 1);
        due("full: head", x.write(0), 16);
        due("full: generation", x.disc(0, 16, 0), 2);
    }

    private static void questionsChangeNothing() {
        MirrorPairs x = Scenes.writing(15, 44);
        java.util.List<Integer> before = Scenes.look(x);
        due("questions change nothing", Scenes.look(x).equals(before), true);
    }
}
