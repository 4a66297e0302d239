/**
 * A system that goes on when any one part fails: four processors on two buses, processes that are
 * pairs, a store of records on two discs that mirror each other, and two terminals.
 *
 * <p>The public methods stay flat on purpose: each brings one thing about and then lets the store
 * run on (runStore), so that what follows of a call is a loop and no recursion.
 */
public final class MirrorPairs {
    public static final int NONE = -1;

    private static final int PROCESSORS = 4;
    private static final int BUSES = 2;
    private static final int DISCS = 2;
    private static final int TERMINALS = 2;
    private static final int SILENCE_TO_DECLARE = 5;

    private static final int PART_PROCESSOR = 0;
    private static final int PART_BUS = 1;
    private static final int PART_DISC = 2;

    private static final int MESSAGE_REQUEST = 1;
    private static final int MESSAGE_REPLY = 2;
    private static final int MESSAGE_CHECKPOINT = 3;
    private static final int MESSAGE_COPY = 4;
    private static final int MESSAGE_WORD = 5;

    private static final int TASK_NOTHING = 0;
    private static final int TASK_WORD = 1;
    /** The store writes; a terminal waits for a reply. */
    private static final int TASK_WORK = 2;

    private static final int KIND_BEGIN = 0;
    private static final int KIND_READ = 1;
    private static final int KIND_WRITE = 2;
    private static final int KIND_COMMIT = 3;
    private static final int KIND_ABORT = 4;

    private static final int RESULT_DONE = 0;
    private static final int RESULT_HAS_TRANSACTION = -1;
    private static final int RESULT_NO_TRANSACTION = -2;
    private static final int RESULT_LOCKED = -3;
    private static final int RESULT_NO_ROOM = -4;
    private static final int RESULT_NO_SUCH = -5;
    private static final int RESULT_OUTDATED = -9;

    private static final int ROW_LIMIT = 8;
    private static final int RECORDS = 16;
    private static final int HEAD_BLOCK = 16;
    private static final int TRAIL_BLOCK = 17;
    private static final int TRAIL_LIMIT = 32;
    private static final int BLOCKS = 49;
    /** Every block has room for the longest one, so that a block's place is a product. */
    private static final int BLOCK_WORDS = 5;

    private static final int ENTRY_WRITE = 1;
    private static final int ENTRY_COMMIT = 2;
    private static final int ENTRY_BACK_OUT = 3;

    private final Network network = new Network();
    private final Mirror mirror = new Mirror();
    private final Store store = new Store();
    private final Terminal[] terminals = {new Terminal(0, 2), new Terminal(1, 3)};
    private final Pair[] pairs = {store, terminals[0], terminals[1]};
    private int ticks;

    public MirrorPairs() {
    }

    public int request(int terminal, int kind, int record, int value) {
        Terminal asker = terminalAt(terminal);
        if (asker == null || !works(asker) || asker.isOpen() || asker.task == TASK_WORD) {
            return NONE;
        }
        int number = asker.latestNumber() + 1;
        asker.asked = new Request(terminal, asker.incarnation, number, asker.epoch(), kind, record, value);
        if (tell(asker)) {
            goOn(asker);
        }
        return number;
    }

    public int tick() {
        ticks++;
        for (int p = 0; p < PROCESSORS; p++) {
            if (network.addSilence(p)) {
                declare(p);
                runStore();
            }
        }
        network.wakeWaiting();
        for (int k = 0; k < pairs.length; k++) {
            if (pairs[k].primary == NONE) {
                restart(pairs[k]);
            }
        }
        return ticks;
    }

    public int arrive(int from, int to, boolean lost) {
        Link way = network.between(from, to);
        if (way == null) {
            return NONE;
        }
        Message message = way.first;
        if (message == null || way.bus == NONE) {
            return 0;
        }
        boolean taken = message.number > way.taken;
        if (taken) {
            way.taken = message.number;
            deliver(message, from, to);
            runStore();
        }
        if (lost) {
            way.bus = NONE;
        } else {
            network.removeFirst(way);
        }
        return taken ? 1 : 2;
    }

    public boolean lose(int from, int to) {
        Link way = network.between(from, to);
        if (way == null || way.bus == NONE) {
            return false;
        }
        way.bus = NONE;
        return true;
    }

    public int write(int disc) {
        if (!isWithin(disc, DISCS) || !works(store) || store.task != TASK_WORK) {
            return NONE;
        }
        int block = mirror.writeNext(disc, store.state.writes);
        runStore();
        return block;
    }

    public int copy() {
        return mirror.reviveNext();
    }

    public boolean fail(int what, int k) {
        if (!isPart(what, k) || !isUp(what, k)) {
            return false;
        }
        if (what == PART_PROCESSOR) {
            stopProcessor(k);
        } else if (what == PART_BUS) {
            network.stopBus(k);
        } else {
            mirror.stop(k);
            runStore();
        }
        return true;
    }

    public boolean repair(int what, int k) {
        if (!isPart(what, k) || isUp(what, k)) {
            return false;
        }
        if (what == PART_PROCESSOR) {
            if (!network.declared[k]) {
                declare(k);
                runStore();
            }
            startProcessor(k);
        } else if (what == PART_BUS) {
            network.busUp[k] = true;
        } else {
            mirror.start(k);
        }
        return true;
    }

    public int answer(int terminal, int what) {
        Terminal shower = terminalAt(terminal);
        if (shower == null || !works(shower) || shower.shown == null) {
            return NONE;
        }
        switch (what) {
            case 0:
                return shower.shown.number;
            case 1:
                return shower.shown.result;
            case 2:
                return shower.shown.value;
            case 3:
                return shower.shown.epoch;
            default:
                return NONE;
        }
    }

    public int pair(int k, int what) {
        if (!isWithin(k, pairs.length)) {
            return NONE;
        }
        Pair asked = pairs[k];
        switch (what) {
            case 0:
                return asked.primary;
            case 1:
                return asked.backup ? asked.otherHome() : NONE;
            case 2:
                return asked.coming ? 1 : 0;
            case 3:
                return works(asked) ? asked.task : NONE;
            case 4:
                return asked.told;
            default:
                return asked instanceof Terminal terminal ? terminalFact(terminal, what) : storeFact(what);
        }
    }

    public int part(int what, int k) {
        if (what == 30) {
            return ticks;
        }
        if (what >= 0 && what <= 2 && isWithin(k, PROCESSORS)) {
            return processorFact(what, k);
        }
        if (what == 10 && isWithin(k, BUSES)) {
            return network.busUp[k] ? 1 : 0;
        }
        if (what >= 20 && what <= 22 && isWithin(k, DISCS)) {
            return discFact(what, k);
        }
        return NONE;
    }

    public int link(int from, int to, int what) {
        Link way = network.between(from, to);
        if (way == null) {
            return NONE;
        }
        if (what == 0) {
            return way.count;
        }
        if (what == 4) {
            return way.taken;
        }
        if (way.first == null) {
            return NONE;
        }
        switch (what) {
            case 1:
                return way.first.kind;
            case 2:
                return way.bus;
            case 3:
                return way.first.number;
            default:
                return NONE;
        }
    }

    public int disc(int d, int block, int word) {
        if (!isWithin(d, DISCS) || !isWithin(block, BLOCKS) || !isWithin(word, wordsOf(block))) {
            return Integer.MIN_VALUE;
        }
        return mirror.words[d][block * BLOCK_WORDS + word];
    }

    public int record(int k, int what) {
        if (!isWithin(k, RECORDS) || !works(store)) {
            return Integer.MIN_VALUE;
        }
        if (what == 0) {
            return store.state.records[k];
        }
        return what == 1 ? store.state.locks[k] : Integer.MIN_VALUE;
    }

    // ---- what the questions share

    private static boolean isWithin(int k, int count) {
        return k >= 0 && k < count;
    }

    private static int wordsOf(int block) {
        if (block < HEAD_BLOCK) {
            return 1;
        }
        return block == HEAD_BLOCK ? 2 : BLOCK_WORDS;
    }

    private static boolean isPart(int what, int k) {
        switch (what) {
            case PART_PROCESSOR:
                return isWithin(k, PROCESSORS);
            case PART_BUS:
                return isWithin(k, BUSES);
            case PART_DISC:
                return isWithin(k, DISCS);
            default:
                return false;
        }
    }

    private boolean isUp(int what, int k) {
        if (what == PART_PROCESSOR) {
            return network.up[k];
        }
        return what == PART_BUS ? network.busUp[k] : mirror.up[k];
    }

    private Terminal terminalAt(int k) {
        return isWithin(k, TERMINALS) ? terminals[k] : null;
    }

    /** Whether a pair has a primary that can do something. */
    private boolean works(Pair pair) {
        return isWithin(pair.primary, PROCESSORS) && network.up[pair.primary];
    }

    private int processorFact(int what, int k) {
        if (what == 2) {
            return network.silence[k];
        }
        boolean fact = what == 0 ? network.up[k] : network.declared[k];
        return fact ? 1 : 0;
    }

    private int discFact(int what, int d) {
        if (what == 22) {
            return mirror.isRevived(d) ? mirror.nextBlock[d] : NONE;
        }
        boolean fact = what == 20 ? mirror.up[d] : mirror.current[d];
        return fact ? 1 : 0;
    }

    private int terminalFact(Terminal terminal, int what) {
        if (what == 5) {
            return terminal.incarnation;
        }
        if (!works(terminal)) {
            return NONE;
        }
        switch (what) {
            case 6:
                return terminal.latestNumber();
            case 7:
                return terminal.isOpen() ? 1 : 0;
            case 8:
                return terminal.epoch();
            default:
                return NONE;
        }
    }

    private int storeFact(int what) {
        if (!works(store)) {
            return NONE;
        }
        switch (what) {
            case 5:
                return store.task == TASK_WORK ? mirror.lacking(store.state.writes) : 0;
            case 6:
                return store.standing;
            case 7:
                return store.state.epoch;
            case 8:
                return store.state.generation;
            case 9:
                return store.state.entries;
            case 10:
                return store.state.transactions();
            default:
                return NONE;
        }
    }

    // ---- pairs: telling, copying, words

    /** Tells the backup; true if the primary need not wait for a word. */
    private boolean tell(Pair pair) {
        if (pair.backup) {
            sendState(pair, MESSAGE_CHECKPOINT);
            pair.task = TASK_WORD;
            return false;
        }
        if (pair.coming) {
            pair.changed = true;
        }
        return true;
    }

    private void sendCopy(Pair pair) {
        pair.coming = true;
        pair.changed = false;
        sendState(pair, MESSAGE_COPY);
    }

    private void sendState(Pair pair, int kind) {
        pair.told++;
        Message message = new Message(kind);
        message.pair = pair.index;
        message.told = pair.told;
        pair.pack(message);
        network.send(pair.primary, pair.otherHome(), message);
    }

    private void deliver(Message message, int from, int to) {
        switch (message.kind) {
            case MESSAGE_REQUEST:
                if (store.primary == to && message.request != null) {
                    store.accept(message.request);
                }
                break;
            case MESSAGE_REPLY:
                takeReply(message.answer, to);
                break;
            case MESSAGE_WORD:
                takeWord(message, to);
                break;
            default:
                takeState(message, from, to);
                break;
        }
    }

    private void takeState(Message message, int from, int to) {
        if (!isWithin(message.pair, pairs.length)) {
            return;
        }
        Pair pair = pairs[message.pair];
        if (pair.primary != from || pair.otherHome() != to) {
            return;
        }
        pair.keep(message);
        Message word = new Message(MESSAGE_WORD);
        word.pair = message.pair;
        word.told = message.told;
        network.send(to, from, word);
    }

    private void takeWord(Message word, int to) {
        if (!isWithin(word.pair, pairs.length)) {
            return;
        }
        Pair pair = pairs[word.pair];
        if (pair.primary != to || word.told != pair.told) {
            return;
        }
        if (!pair.coming) {
            stopWaiting(pair);
        } else if (pair.changed) {
            sendCopy(pair);
        } else {
            pair.coming = false;
            pair.backup = true;
        }
    }

    private void stopWaiting(Pair pair) {
        if (pair.task != TASK_WORD) {
            return;
        }
        if (pair instanceof Terminal terminal) {
            goOn(terminal);
        } else {
            startWriting();
        }
    }

    // ---- processors: going down, being declared, coming back

    private void stopProcessor(int p) {
        network.stop(p);
        for (int k = 0; k < pairs.length; k++) {
            if (pairs[k].primary == p) {
                pairs[k].stop();
            }
        }
    }

    private void declare(int p) {
        network.declared[p] = true;
        for (int k = 0; k < pairs.length; k++) {
            if (pairs[k].primary == p) {
                replacePrimary(pairs[k]);
            }
        }
        for (int k = 0; k < pairs.length; k++) {
            Pair pair = pairs[k];
            if ((pair.backup || pair.coming) && pair.otherHome() == p) {
                pair.dropBackup();
                stopWaiting(pair);
            }
        }
    }

    private void replacePrimary(Pair pair) {
        int other = pair.otherHome();
        boolean canTakeOver = pair.backup && network.up[other];
        pair.dropBackup();
        if (!canTakeOver) {
            pair.primary = NONE;
            return;
        }
        pair.primary = other;
        pair.takeOver();
        if (pair instanceof Terminal terminal) {
            goOn(terminal);
            return;
        }
        if (store.state.busy) {
            startWriting();
        }
        sendAllAgain();
    }

    private void startProcessor(int p) {
        network.up[p] = true;
        network.declared[p] = false;
        for (int k = 0; k < pairs.length; k++) {
            Pair pair = pairs[k];
            boolean alone = works(pair) && !pair.backup && !pair.coming;
            if (alone && pair.otherHome() == p) {
                sendCopy(pair);
            }
        }
    }

    private void restart(Pair pair) {
        int home = network.firstUp(pair.firstHome);
        if (home == NONE) {
            return;
        }
        if (pair instanceof Terminal terminal) {
            terminal.beginAnew();
        } else if (!restoreStore()) {
            return;
        }
        pair.primary = home;
        if (network.up[pair.otherHome()]) {
            sendCopy(pair);
        }
    }

    private boolean restoreStore() {
        int disc = mirror.chooseForRestart();
        if (disc == NONE) {
            return false;
        }
        store.state = new StoreState();
        store.state.restore(mirror.words[disc]);
        store.announces = true;
        startWriting();
        return true;
    }

    // ---- terminals

    /** What a terminal does when its backup knows its state: it sends what is open or shows what came. */
    private void goOn(Terminal terminal) {
        if (!terminal.isOpen()) {
            terminal.task = TASK_NOTHING;
            if (terminal.answer != null) {
                terminal.shown = terminal.answer;
            }
            return;
        }
        terminal.task = TASK_WORK;
        if (store.primary != NONE) {
            Message message = new Message(MESSAGE_REQUEST);
            message.request = terminal.asked;
            network.send(terminal.primary, store.primary, message);
        }
    }

    /** A terminal that waits for a reply has an open request: to go on is to send it. */
    private void sendAllAgain() {
        for (int t = 0; t < TERMINALS; t++) {
            if (terminals[t].task == TASK_WORK) {
                goOn(terminals[t]);
            }
        }
    }

    private void takeReply(Answer reply, int to) {
        if (reply == null) {
            return;
        }
        Terminal terminal = terminalAt(reply.terminal);
        if (terminal == null || terminal.primary != to || terminal.task == TASK_WORD || !terminal.awaits(reply)) {
            return;
        }
        terminal.answer = reply;
        if (tell(terminal)) {
            goOn(terminal);
        }
    }

    // ---- the store

    /** Lets the store go on till it has to wait; each round but the first takes one from the row. */
    private void runStore() {
        for (int round = 0; round < ROW_LIMIT + 2; round++) {
            if (store.task == TASK_WORK && mirror.hasAll(store.state.writes)) {
                endWriting();
            }
            if (store.task != TASK_NOTHING || store.standing == 0) {
                return;
            }
            beginFirst();
        }
    }

    private void startWriting() {
        store.task = TASK_WORK;
        mirror.startWrites();
    }

    private void endWriting() {
        Request done = store.state.request;
        store.task = TASK_NOTHING;
        store.state.busy = false;
        store.state.request = null;
        if (done != null) {
            sendReply(done.terminal);
        } else if (store.announces) {
            sendAllAgain();
        }
        store.announces = false;
    }

    private void beginFirst() {
        Request request = store.takeFirst();
        if (request == null) {
            return;
        }
        int order = store.state.orderToDone(request);
        if (order == 0) {
            sendReply(request.terminal);
        }
        if (order <= 0) {
            return;
        }
        store.state.perform(request);
        if (tell(store)) {
            startWriting();
        }
    }

    private void sendReply(int t) {
        Terminal terminal = terminalAt(t);
        if (terminal == null || terminal.primary == NONE) {
            return;
        }
        Message message = new Message(MESSAGE_REPLY);
        message.answer = store.state.answerFor(t);
        network.send(store.primary, terminal.primary, message);
    }

    // ---- the classes inside

    /** What a terminal asks; it never changes, so states and messages share it. */
    private static final class Request {
        final int terminal;
        final int incarnation;
        final int number;
        final int epoch;
        final int kind;
        final int record;
        final int value;

        Request(int terminal, int incarnation, int number, int epoch, int kind, int record, int value) {
            this.terminal = terminal;
            this.incarnation = incarnation;
            this.number = number;
            this.epoch = epoch;
            this.kind = kind;
            this.record = record;
            this.value = value;
        }

        boolean isSame(Request other) {
            return other != null && terminal == other.terminal
                    && incarnation == other.incarnation && number == other.number;
        }
    }

    /** What the store replies; it never changes, so states and messages share it. */
    private static final class Answer {
        final int terminal;
        final int incarnation;
        final int number;
        final int result;
        final int value;
        final int epoch;

        Answer(int terminal, int incarnation, int number, int result, int value, int epoch) {
            this.terminal = terminal;
            this.incarnation = incarnation;
            this.number = number;
            this.result = result;
            this.value = value;
            this.epoch = epoch;
        }
    }

    /** A message: a terminal's state is a request and an answer, the store's a StoreState. */
    private static final class Message {
        final int kind;
        int number;
        int pair;
        int told;
        Request request;
        Answer answer;
        StoreState storeState;
        Message next;

        Message(int kind) {
            this.kind = kind;
        }
    }

    private static final class Link {
        Message first;
        Message last;
        int count;
        int sent;
        int taken;
        int bus = NONE;
        /** Kept while the first message waits, for it shall come on the other bus next. */
        int lastBus = NONE;

        void clear() {
            first = null;
            last = null;
            count = 0;
            sent = 0;
            taken = 0;
            bus = NONE;
            lastBus = NONE;
        }

        void append(Message message) {
            sent++;
            message.number = sent;
            if (last == null) {
                first = message;
            } else {
                last.next = message;
            }
            last = message;
            count++;
        }

        void putOn(int newBus) {
            bus = newBus;
            lastBus = newBus;
        }
    }

    /** The processors, the buses and the links. */
    private static final class Network {
        final boolean[] up = {true, true, true, true};
        final boolean[] declared = new boolean[PROCESSORS];
        final int[] silence = new int[PROCESSORS];
        final boolean[] busUp = {true, true};
        final Link[] links = new Link[PROCESSORS * PROCESSORS];

        Network() {
            for (int k = 0; k < links.length; k++) {
                links[k] = new Link();
            }
        }

        Link between(int from, int to) {
            boolean known = from >= 0 && from < PROCESSORS && to >= 0 && to < PROCESSORS;
            return known && from != to ? links[from * PROCESSORS + to] : null;
        }

        void send(int from, int to, Message message) {
            Link way = between(from, to);
            if (way == null || !up[from] || !up[to]) {
                return;
            }
            way.append(message);
            if (way.count == 1) {
                way.putOn(firstBusUp());
            }
        }

        void removeFirst(Link way) {
            if (way.first == null) {
                return;
            }
            way.first = way.first.next;
            way.count--;
            if (way.first == null) {
                way.last = null;
                way.putOn(NONE);
            } else {
                way.putOn(firstBusUp());
            }
        }

        int firstBusUp() {
            if (busUp[0]) {
                return 0;
            }
            return busUp[1] ? 1 : NONE;
        }

        int firstUp(int firstHome) {
            for (int p = firstHome; p <= firstHome + 1 && isWithin(p, PROCESSORS); p++) {
                if (up[p]) {
                    return p;
                }
            }
            return NONE;
        }

        /** True if this silence is the one with which the processor is declared. */
        boolean addSilence(int p) {
            if (up[p] || declared[p] || firstBusUp() == NONE) {
                return false;
            }
            silence[p]++;
            return silence[p] >= SILENCE_TO_DECLARE;
        }

        void wakeWaiting() {
            for (int k = 0; k < links.length; k++) {
                Link way = links[k];
                if (way.first != null && way.bus == NONE) {
                    int bus = nextBus(way.lastBus);
                    if (bus != NONE) {
                        way.putOn(bus);
                    }
                }
            }
        }

        int nextBus(int lastBus) {
            if (lastBus == NONE) {
                return firstBusUp();
            }
            int other = 1 - lastBus;
            if (busUp[other]) {
                return other;
            }
            return busUp[lastBus] ? lastBus : NONE;
        }

        void stopBus(int bus) {
            busUp[bus] = false;
            for (int k = 0; k < links.length; k++) {
                if (links[k].bus == bus) {
                    links[k].bus = NONE;
                }
            }
        }

        void stop(int p) {
            up[p] = false;
            silence[p] = 0;
            for (int k = 0; k < PROCESSORS; k++) {
                links[p * PROCESSORS + k].clear();
                links[k * PROCESSORS + p].clear();
            }
        }
    }

    /** What the store and the terminals have in common as pairs. */
    private abstract static class Pair {
        final int index;
        final int firstHome;
        int primary;
        boolean backup = true;
        boolean coming;
        /** Whether something would have been told since the copy was sent. */
        boolean changed;
        int told;
        int task;

        Pair(int index, int firstHome, int primary) {
            this.index = index;
            this.firstHome = firstHome;
            this.primary = primary;
        }

        int otherHome() {
            return primary == firstHome ? firstHome + 1 : firstHome;
        }

        void dropBackup() {
            backup = false;
            coming = false;
        }

        /** Puts the whole state into a message. */
        abstract void pack(Message message);

        /** The backup's state is now the one in the message. */
        abstract void keep(Message message);

        /** The backup's state becomes the primary's. */
        abstract void takeOver();

        /** The primary's processor goes down: what is no part of the state is gone with it. */
        void stop() {
            task = TASK_NOTHING;
        }
    }

    /**
     * A terminal. Its state is what it asked latest and the answer it got latest: number, epoch and
     * whether a request is open follow from these two and the incarnation.
     */
    private static final class Terminal extends Pair {
        int incarnation;
        Request asked;
        Answer answer;
        Request keptAsked;
        Answer keptAnswer;
        Answer shown;

        Terminal(int t, int primary) {
            super(t + 1, 2, primary);
        }

        int latestNumber() {
            return asked == null ? 0 : asked.number;
        }

        boolean isOpen() {
            return asked != null && (answer == null || answer.number != asked.number);
        }

        int epoch() {
            if (answer != null) {
                return answer.epoch;
            }
            return incarnation == 0 ? 1 : -1;
        }

        boolean awaits(Answer reply) {
            return isOpen() && reply.incarnation == incarnation && reply.number == latestNumber();
        }

        void beginAnew() {
            incarnation++;
            asked = null;
            answer = null;
            shown = null;
        }

        void pack(Message message) {
            message.request = asked;
            message.answer = answer;
        }

        void keep(Message message) {
            keptAsked = message.request;
            keptAnswer = message.answer;
        }

        void takeOver() {
            asked = keptAsked;
            answer = keptAnswer;
        }
    }

    private static final class Store extends Pair {
        StoreState state = new StoreState();
        StoreState kept = new StoreState();
        final Request[] row = new Request[ROW_LIMIT];
        int standing;
        /** Whether the terminals are still to hear of this primary, which restarts. */
        boolean announces;

        Store() {
            super(0, 0, 0);
        }

        void accept(Request request) {
            boolean known = isWithin(request.terminal, TERMINALS);
            if (!known || standing >= ROW_LIMIT || request.isSame(state.request)) {
                return;
            }
            for (int k = 0; k < standing; k++) {
                if (request.isSame(row[k])) {
                    return;
                }
            }
            row[standing] = request;
            standing++;
        }

        Request takeFirst() {
            if (standing == 0) {
                return null;
            }
            Request first = row[0];
            standing--;
            for (int k = 0; k < standing; k++) {
                row[k] = row[k + 1];
            }
            return first;
        }

        void pack(Message message) {
            message.storeState = new StoreState(state);
        }

        void keep(Message message) {
            if (message.storeState != null) {
                kept = message.storeState;
            }
        }

        /** The kept state need not be doubled: a new backup gets a state of its own. */
        void takeOver() {
            state = kept;
        }

        void stop() {
            super.stop();
            standing = 0;
            announces = false;
        }
    }

    /** The state of the store, and what a request does to it. */
    private static final class StoreState {
        int epoch = 1;
        final int[] doneIncarnation;
        final int[] doneNumber;
        final int[] doneResult;
        final int[] doneValue;
        final int[] records;
        final int[] locks;
        final boolean[] inTransaction;
        int generation = 1;
        int entries;
        /** Entries one behind the other, each as its block on a disc. */
        final int[] trail;
        /** Whether a request (or a restart, when there is no request) is being done. */
        boolean busy;
        Request request;
        /** Made anew for each request and only read afterwards, so states share them. */
        Writes writes;

        StoreState() {
            writes = new Writes();
            doneIncarnation = new int[TERMINALS];
            doneNumber = new int[TERMINALS];
            doneResult = new int[TERMINALS];
            doneValue = new int[TERMINALS];
            records = new int[RECORDS];
            locks = new int[RECORDS];
            inTransaction = new boolean[TERMINALS];
            trail = new int[TRAIL_LIMIT * BLOCK_WORDS];
            for (int k = 0; k < RECORDS; k++) {
                locks[k] = NONE;
            }
        }

        StoreState(StoreState from) {
            epoch = from.epoch;
            doneIncarnation = from.doneIncarnation.clone();
            doneNumber = from.doneNumber.clone();
            doneResult = from.doneResult.clone();
            doneValue = from.doneValue.clone();
            records = from.records.clone();
            locks = from.locks.clone();
            inTransaction = from.inTransaction.clone();
            generation = from.generation;
            entries = from.entries;
            trail = from.trail.clone();
            busy = from.busy;
            request = from.request;
            writes = from.writes;
        }

        int transactions() {
            return (inTransaction[0] ? 1 : 0) + (inTransaction[1] ? 1 : 0);
        }

        /** Below 0: older than the latest one done for its terminal; 0: it is that one; above: newer. */
        int orderToDone(Request asked) {
            int order = Integer.compare(asked.incarnation, doneIncarnation[asked.terminal]);
            return order != 0 ? order : Integer.compare(asked.number, doneNumber[asked.terminal]);
        }

        Answer answerFor(int t) {
            return new Answer(t, doneIncarnation[t], doneNumber[t], doneResult[t], doneValue[t], epoch);
        }

        void perform(Request asked) {
            int t = asked.terminal;
            busy = true;
            request = asked;
            writes = new Writes();
            int result = judge(asked);
            boolean done = result == RESULT_DONE;
            boolean commits = done && asked.kind == KIND_COMMIT;
            boolean backsOut = result == RESULT_OUTDATED ? inTransaction[t] : done && asked.kind == KIND_ABORT;
            if (done && asked.kind == KIND_BEGIN) {
                inTransaction[t] = true;
            }
            if (done && asked.kind == KIND_WRITE) {
                addEntry(ENTRY_WRITE, t, asked.record, intOf(asked.record));
                setRecord(asked.record, asked.value);
            }
            if (commits) {
                addEntry(ENTRY_COMMIT, t, 0, 0);
            }
            if (backsOut) {
                backOut(t);
            }
            if (commits || backsOut) {
                endTransaction(t);
            }
            doneIncarnation[t] = asked.incarnation;
            doneNumber[t] = asked.number;
            doneResult[t] = result;
            doneValue[t] = done && asked.kind == KIND_READ ? intOf(asked.record) : 0;
        }

        int judge(Request asked) {
            int t = asked.terminal;
            if (asked.incarnation != doneIncarnation[t] || asked.epoch != epoch) {
                return RESULT_OUTDATED;
            }
            if (asked.kind == KIND_BEGIN) {
                return judgeBegin(t);
            }
            if (asked.kind < KIND_BEGIN || asked.kind > KIND_ABORT) {
                return RESULT_NO_SUCH;
            }
            if (!inTransaction[t]) {
                return RESULT_NO_TRANSACTION;
            }
            return asked.kind == KIND_READ || asked.kind == KIND_WRITE ? judgeAccess(asked) : RESULT_DONE;
        }

        /** Each transaction has a block left for its end: this keeps the trail from running over. */
        int judgeBegin(int t) {
            if (inTransaction[t]) {
                return RESULT_HAS_TRANSACTION;
            }
            return TRAIL_LIMIT - entries >= transactions() + 1 ? RESULT_DONE : RESULT_NO_ROOM;
        }

        /** The lock is taken even when there is no room for the write, for the lock comes first. */
        int judgeAccess(Request asked) {
            int k = asked.record;
            if (!isWithin(k, RECORDS)) {
                return RESULT_NO_SUCH;
            }
            if (locks[k] != NONE && locks[k] != asked.terminal) {
                return RESULT_LOCKED;
            }
            locks[k] = asked.terminal;
            boolean room = TRAIL_LIMIT - entries - 1 >= transactions();
            return asked.kind == KIND_WRITE && !room ? RESULT_NO_ROOM : RESULT_DONE;
        }

        int intOf(int k) {
            return isWithin(k, RECORDS) ? records[k] : 0;
        }

        void setRecord(int k, int value) {
            if (!isWithin(k, RECORDS)) {
                return;
            }
            records[k] = value;
            int at = writes.add(k);
            if (at != NONE) {
                writes.words[at] = value;
            }
        }

        void addEntry(int kind, int t, int record, int before) {
            if (!isWithin(entries, TRAIL_LIMIT)) {
                return;
            }
            int place = entries * BLOCK_WORDS;
            trail[place] = generation;
            trail[place + 1] = kind;
            trail[place + 2] = t;
            trail[place + 3] = record;
            trail[place + 4] = before;
            int at = writes.add(TRAIL_BLOCK + entries);
            if (at != NONE) {
                System.arraycopy(trail, place, writes.words, at, BLOCK_WORDS);
            }
            entries++;
        }

        void endTransaction(int t) {
            inTransaction[t] = false;
            for (int k = 0; k < RECORDS; k++) {
                if (locks[k] == t) {
                    locks[k] = NONE;
                }
            }
            if (transactions() == 0) {
                nextGeneration();
            }
        }

        void nextGeneration() {
            generation++;
            entries = 0;
            int at = writes.add(HEAD_BLOCK);
            if (at != NONE) {
                writes.words[at] = generation;
                writes.words[at + 1] = epoch;
            }
        }

        boolean isEntry(int i, int kind, int t) {
            return trail[i * BLOCK_WORDS + 1] == kind && trail[i * BLOCK_WORDS + 2] == t;
        }

        /** The first entry behind the terminal's latest commit or backing out. */
        int openFrom(int t) {
            for (int i = entries - 1; i >= 0; i--) {
                if (isEntry(i, ENTRY_COMMIT, t) || isEntry(i, ENTRY_BACK_OUT, t)) {
                    return i + 1;
                }
            }
            return 0;
        }

        boolean hasOpenWrites(int t) {
            for (int i = openFrom(t); i < entries; i++) {
                if (isEntry(i, ENTRY_WRITE, t)) {
                    return true;
                }
            }
            return false;
        }

        void backOut(int t) {
            int from = openFrom(t);
            for (int i = entries - 1; i >= from; i--) {
                if (isEntry(i, ENTRY_WRITE, t) && isFirstOfRecord(i, from, t)) {
                    setRecord(trail[i * BLOCK_WORDS + 3], trail[i * BLOCK_WORDS + 4]);
                }
            }
            addEntry(ENTRY_BACK_OUT, t, 0, 0);
        }

        boolean isFirstOfRecord(int i, int from, int t) {
            for (int j = from; j < i; j++) {
                if (isEntry(j, ENTRY_WRITE, t) && trail[j * BLOCK_WORDS + 3] == trail[i * BLOCK_WORDS + 3]) {
                    return false;
                }
            }
            return true;
        }

        /** Makes a new state the one that a restart by a disc begins with. */
        void restore(int[] words) {
            for (int k = 0; k < RECORDS; k++) {
                records[k] = words[k * BLOCK_WORDS];
            }
            generation = words[HEAD_BLOCK * BLOCK_WORDS];
            epoch = words[HEAD_BLOCK * BLOCK_WORDS + 1] + 1;
            readTrail(words);
            busy = true;
            for (int t = 0; t < TERMINALS; t++) {
                doneIncarnation[t] = -1;
                if (hasOpenWrites(t)) {
                    backOut(t);
                }
            }
            nextGeneration();
        }

        void readTrail(int[] words) {
            int start = TRAIL_BLOCK * BLOCK_WORDS;
            while (entries < TRAIL_LIMIT && words[start + entries * BLOCK_WORDS] == generation) {
                entries++;
            }
            System.arraycopy(words, start, trail, 0, entries * BLOCK_WORDS);
        }
    }

    /** Writes in their order: the block of each, and room for a whole block's words. */
    private static final class Writes {
        /** A restart has the most: 16 records and an entry for each terminal, and the head block. */
        static final int LIMIT = TERMINALS * (RECORDS + 1) + 1;

        final int[] blocks = new int[LIMIT];
        final int[] words = new int[LIMIT * BLOCK_WORDS];
        int count;

        /** Where the words of a new write go, or NONE. */
        int add(int block) {
            if (count >= LIMIT) {
                return NONE;
            }
            blocks[count] = block;
            count++;
            return (count - 1) * BLOCK_WORDS;
        }
    }

    /** The two discs. */
    private static final class Mirror {
        final boolean[] up = {true, true};
        final boolean[] current = {true, true};
        final int[] nextBlock = new int[DISCS];
        /** How many of the store's writes each disc has. */
        final int[] written = new int[DISCS];
        final int[][] words = new int[DISCS][BLOCKS * BLOCK_WORDS];

        Mirror() {
            for (int d = 0; d < DISCS; d++) {
                words[d][HEAD_BLOCK * BLOCK_WORDS] = 1;
                words[d][HEAD_BLOCK * BLOCK_WORDS + 1] = 1;
            }
        }

        boolean isUsable(int d) {
            return up[d] && current[d];
        }

        boolean isRevived(int d) {
            return up[d] && !current[d] && isUsable(1 - d);
        }

        void stop(int d) {
            up[d] = false;
            if (isUsable(1 - d)) {
                current[d] = false;
            }
        }

        void start(int d) {
            up[d] = true;
            nextBlock[d] = 0;
        }

        void startWrites() {
            written[0] = 0;
            written[1] = 0;
        }

        boolean hasAll(Writes writes) {
            boolean some = writes.count == 0;
            for (int d = 0; d < DISCS; d++) {
                if (isUsable(d)) {
                    some = true;
                    if (written[d] < writes.count) {
                        return false;
                    }
                }
            }
            return some;
        }

        int lacking(Writes writes) {
            int most = 0;
            for (int d = 0; d < DISCS; d++) {
                if (isUsable(d)) {
                    most = Math.max(most, writes.count - written[d]);
                }
            }
            return most;
        }

        int writeNext(int d, Writes writes) {
            int at = written[d];
            if (!isUsable(d) || at >= writes.count) {
                return NONE;
            }
            int block = writes.blocks[at];
            put(d, block, writes.words, at * BLOCK_WORDS);
            if (isRevived(1 - d) && block < nextBlock[1 - d]) {
                put(1 - d, block, writes.words, at * BLOCK_WORDS);
            }
            written[d]++;
            return block;
        }

        void put(int d, int block, int[] from, int place) {
            System.arraycopy(from, place, words[d], block * BLOCK_WORDS, BLOCK_WORDS);
        }

        int reviveNext() {
            for (int d = 0; d < DISCS; d++) {
                if (isRevived(d)) {
                    int block = nextBlock[d];
                    put(d, block, words[1 - d], block * BLOCK_WORDS);
                    nextBlock[d]++;
                    if (nextBlock[d] >= BLOCKS) {
                        current[d] = true;
                        written[d] = written[1 - d];
                    }
                    return block;
                }
            }
            return NONE;
        }

        /** The disc that a restart reads; of two the higher one may differ, so it is current no more. */
        int chooseForRestart() {
            if (isUsable(0)) {
                if (isUsable(1)) {
                    current[1] = false;
                    nextBlock[1] = 0;
                }
                return 0;
            }
            return isUsable(1) ? 1 : NONE;
        }
    }
}
