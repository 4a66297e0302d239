/** What the tests share: counting wrong answers, and moving a system on. */
final class Checks {
    static final int NO = Integer.MIN_VALUE;
    private static int asked;
    private static int wrong;
    private static int sentences;
    private static int askedBefore;
    /** The sentence of the document that a test is about; empty in tests that are about several. */
    private static String about = "";

    private Checks() {
    }

    /** Begins the test of one sentence, which must stand in the document at that place. */
    static void sentence(String where, String words) {
        endSentence();
        sentences++;
        askedBefore = asked;
        about = where + ", \"" + words + "\": ";
        if (!Document.says(where, words)) {
            wrong++;
            System.out.println(about + "the document does not say so there");
        }
    }

    private static void endSentence() {
        if (sentences > 0 && asked == askedBefore) {
            wrong++;
            System.out.println(about + "nothing is tested");
        }
    }

    static void due(String what, long got, long want) {
        asked++;
        if (got != want) {
            wrong++;
            System.out.println(about + what + " answered " + got + ", due is " + want);
        }
    }

    static void due(String what, boolean got, boolean want) {
        due(what, got ? 1 : 0, want ? 1 : 0);
    }

    static void end(String name) {
        endSentence();
        String of = sentences == 0 ? "" : sentences + " sentences, ";
        System.out.println(name + ": " + of + asked + " answers, " + wrong + " wrong");
        System.exit(wrong == 0 ? 0 : 1);
    }

    /** Lets every message on a bus arrive, by senders, then receivers, till there is none. */
    static void carry(MirrorPairs x) {
        boolean moved = true;
        for (int round = 0; moved && round < 1000; round++) {
            moved = false;
            for (int from = 0; from < 4; from++) {
                for (int to = 0; to < 4; to++) {
                    if (from != to && x.arrive(from, to, false) > 0) {
                        moved = true;
                    }
                }
            }
        }
    }

    static boolean writeAll(MirrorPairs x) {
        boolean moved = false;
        for (int d = 0; d < 2; d++) {
            for (int k = 0; k < 100 && x.write(d) != MirrorPairs.NONE; k++) {
                moved = true;
            }
        }
        return moved;
    }

    /** Messages and writes, till nothing moves. */
    static void settle(MirrorPairs x) {
        carry(x);
        for (int round = 0; round < 100 && writeAll(x); round++) {
            carry(x);
        }
    }

    /** Asks, moves on till nothing moves, and gives the result that is shown. */
    static int ask(MirrorPairs x, int terminal, int kind, int record, int value) {
        x.request(terminal, kind, record, value);
        settle(x);
        return x.answer(terminal, 1);
    }

    static void ticks(MirrorPairs x, int count) {
        for (int k = 0; k < count; k++) {
            x.tick();
        }
    }

    /** Both processors of a pair of homes down and up again: what was primary there is lost. */
    static void bounce(MirrorPairs x, int first) {
        x.fail(0, first);
        x.fail(0, first + 1);
        x.repair(0, first);
        x.repair(0, first + 1);
    }
}
