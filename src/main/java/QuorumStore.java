import java.util.NoSuchElementException;

/**
 * A store of numbers that seven nodes keep in step by Multi-Paxos over a network that loses, doubles and reorders.
 * The words in capitals here (NODE, SLOT, WORK, ..) are those of the document.
 */
public final class QuorumStore {
    private static final int NODES = 7;
    private static final int ALL_NODES = 127;
    private static final int MEMBERS_FOR_ZERO = 7;
    private static final int CLIENTS = 8;
    private static final int KEYS = 32;
    private static final int MOST_TICKS = 50;

    /** How many SLOTS behind A can be proposed, and behind which a change of the members counts. */
    private static final int WINDOW = 4;
    /** How far above A a SLOT may be to be ACCEPTED or KNOWN. */
    private static final int REACH = 32;
    /** How many applied SLOTS stay KNOWN. */
    private static final int KEPT = 16;
    /** A power of two that has place for KEPT + REACH SLOTS. */
    private static final int KNOWN_WIDTH = 64;
    private static final int MOST_WANTED = 8;
    private static final int QUEUE_ROOM = 16;
    private static final int MESSAGE_ROOM = 300;
    /** Far above the SLOTS that one WORK can propose: at most REACH from BEST and QUEUE_ROOM from the QUEUE. */
    private static final int MOST_WORK = 1000;
    private static final int LEADER_TIMER = 3;
    private static final long NO_NUMBER = 1L << 40;

    private static final int NOTHING = 0;
    private static final int PUT = 1;
    private static final int TAKE = 2;
    private static final int ADD = 3;
    private static final int SWAP = 4;
    private static final int MEMBERS = 6;

    private static final int PREPARE = 1;
    private static final int PROMISE = 2;
    private static final int REJECT = 3;
    private static final int ACCEPT = 4;
    private static final int ACCEPTED = 5;
    private static final int HEART = 6;
    private static final int WANT = 7;
    private static final int CHOSEN = 8;
    private static final int SNAPSHOT = 9;

    private final Network network;
    private final Node[] nodes;
    private int nextKey;

    public QuorumStore(int members) {
        int mask = members & ALL_NODES;
        Network shared = new Network();
        network = shared;
        nodes = new Node[NODES];
        for (int i = 0; i < NODES; i++) {
            nodes[i] = new Node(i, mask == 0 ? MEMBERS_FOR_ZERO : mask, shared);
        }
    }

    public int tick(int n) throws IllegalArgumentException {
        if (n < 1 || n > MOST_TICKS) {
            throw new IllegalArgumentException("n is not 1 .. 50");
        }
        for (int turn = 0; turn < n; turn++) {
            for (int i = 0; i < NODES; i++) {
                nodes[i].passTime();
            }
        }
        return network.size;
    }

    public int deliver(int k) throws NoSuchElementException {
        Message taken = messageAt(k);
        network.removeAt(k);
        Node receiver = nodes[taken.to];
        if (receiver.live) {
            network.delivered++;
            receiver.receive(taken);
        }
        return taken.to;
    }

    public int drop(int k) throws NoSuchElementException {
        messageAt(k);
        network.removeAt(k);
        return network.size;
    }

    public int copy(int k) throws NoSuchElementException, IllegalStateException {
        Message twin = messageAt(k);
        if (network.isFull()) {
            throw new IllegalStateException("300 messages are on their way");
        }
        network.repeat(twin);
        return network.size;
    }

    public int message(int k, int what) throws NoSuchElementException, IllegalArgumentException {
        Message seen = messageAt(k);
        switch (what) {
            case 0:
                return seen.kind;
            case 1:
                return seen.from;
            case 2:
                return seen.to;
            case 3:
                return seen.ballot;
            case 4:
                return seen.slot;
            case 5:
                return seen.list == null ? 0 : seen.list.size();
            default:
                throw new IllegalArgumentException("what is not 0 .. 5");
        }
    }

    public void fall(int node) throws NoSuchElementException, IllegalStateException {
        Node falling = nodeAt(node);
        if (!falling.live) {
            throw new IllegalStateException("the node is not live");
        }
        falling.stop();
    }

    public void rise(int node) throws NoSuchElementException, IllegalStateException {
        Node rising = nodeAt(node);
        if (rising.live) {
            throw new IllegalStateException("the node is live");
        }
        rising.start();
    }

    public int key(int key) throws IllegalArgumentException {
        if (key < 0 || key >= KEYS) {
            throw new IllegalArgumentException("key is not 0 .. 31");
        }
        int before = nextKey;
        nextKey = key;
        return before;
    }

    public int ask(int node, int client, int seq, int kind, int a, int b)
            throws NoSuchElementException, IllegalArgumentException, IllegalStateException {
        Node asked = nodeAt(node);
        checkClient(client);
        if (kind < PUT || kind > MEMBERS || seq < 1) {
            throw new IllegalArgumentException("kind is not 1 .. 6, or seq is below 1");
        }
        if (!asked.live) {
            throw new IllegalStateException("the node is not live");
        }
        int refusal = asked.refusal(client, seq);
        if (refusal == 0) {
            asked.take(new Value(kind, client, seq, nextKey, a, b));
        }
        return refusal;
    }

    public long answer(int node, int client, int what) throws NoSuchElementException, IllegalArgumentException {
        State state = nodeAt(node).state;
        checkClient(client);
        switch (what) {
            case 0:
                return state.seqs[client];
            case 1:
                return state.results[client];
            default:
                throw new IllegalArgumentException("what is not 0 or 1");
        }
    }

    public long number(int node, int key) throws NoSuchElementException {
        State state = nodeAt(node).state;
        if (key < 0 || key >= KEYS) {
            throw new NoSuchElementException("no such key");
        }
        return state.numbers[key];
    }

    public int known(int node, int slot, int what) throws NoSuchElementException, IllegalArgumentException {
        Value value = nodeAt(node).known.valueAt(slot);
        if (value == null) {
            throw new NoSuchElementException("nothing is known there");
        }
        switch (what) {
            case 0:
                return value.kind;
            case 1:
                return value.client;
            case 2:
                return value.seq;
            case 3:
                return value.key;
            case 4:
                return value.a;
            case 5:
                return value.b;
            default:
                throw new IllegalArgumentException("what is not 0 .. 5");
        }
    }

    public int about(int node, int what) throws NoSuchElementException, IllegalArgumentException {
        Node seen = nodeAt(node);
        switch (what) {
            case 0:
                return seen.live ? 1 : 0;
            case 1:
                return seen.leads ? 1 : 0;
            case 2:
                return seen.ballot;
            case 3:
                return seen.promised;
            case 4:
                return seen.applied;
            case 5:
                return seen.base;
            case 6:
                return seen.state.configAt(seen.applied + 1);
            case 7:
                return seen.leader;
            case 8:
                return seen.timer;
            case 9:
                return seen.leads ? seen.lead.queued : 0;
            case 10:
                return seen.leads ? seen.lead.grants : 0;
            case 11:
                return seen.leads ? seen.lead.proposals.size() : 0;
            case 12:
                return seen.accepted.size();
            case 13:
                return seen.state.configs;
            default:
                throw new IllegalArgumentException("what is not 0 .. 13");
        }
    }

    public int count(int what) {
        switch (what) {
            case 0:
                return network.size;
            case 1:
                return network.sent;
            case 2:
                return network.lost;
            case 3:
                return network.delivered;
            default:
                return -1;
        }
    }

    private Node nodeAt(int node) {
        if (node < 0 || node >= NODES) {
            throw new NoSuchElementException("no such node");
        }
        return nodes[node];
    }

    private Message messageAt(int k) {
        if (k < 0 || k >= network.size) {
            throw new NoSuchElementException("no such message");
        }
        return network.row[k];
    }

    private static void checkClient(int client) {
        if (client < 0 || client >= CLIENTS) {
            throw new NoSuchElementException("no such client");
        }
    }

    private static boolean isIn(int mask, int node) {
        return (mask >> node & 1) != 0;
    }

    /** More than half of the members are among the voters. */
    private static boolean isMajority(int members, int voters) {
        return 2 * Integer.bitCount(members & voters) > Integer.bitCount(members);
    }

    /** What is proposed, chosen and applied; never changed, so all who have it may share it. */
    private static final class Value {
        final int kind;
        final int client;
        final int seq;
        final int key;
        final int a;
        final int b;

        Value(int kind, int client, int seq, int key, int a, int b) {
            this.kind = kind;
            this.client = client;
            this.seq = seq;
            this.key = key;
            this.a = a;
            this.b = b;
        }
    }

    /** A MESSAGE; never changed once it is sent, so its copies are the same object. */
    private static final class Message {
        final int kind;
        final int from;
        final int to;
        final int ballot;
        final int slot;
        final Value value;
        /** The ACCEPTED that a PROMISE tells, else null. */
        Row list;
        /** What a SNAPSHOT brings, else null. */
        State state;

        Message(int kind, int from, int to, int ballot, int slot, Value value) {
            this.kind = kind;
            this.from = from;
            this.to = to;
            this.ballot = ballot;
            this.slot = slot;
            this.value = value;
        }
    }

    /** The MESSAGES that are on their way. */
    private static final class Network {
        final Message[] row = new Message[MESSAGE_ROOM];
        int size;
        int sent;
        int lost;
        int delivered;

        boolean isFull() {
            return size >= MESSAGE_ROOM;
        }

        void removeAt(int k) {
            if (k < 0 || k >= size) {
                return;
            }
            size--;
            for (int i = k; i < size; i++) {
                row[i] = row[i + 1];
            }
            row[size] = null;
        }

        void send(Message message) {
            sent++;
            if (size < MESSAGE_ROOM) {
                row[size] = message;
                size++;
            } else {
                lost++;
            }
        }

        /** A second time in the row, but not sent. */
        void repeat(Message message) {
            if (size < MESSAGE_ROOM) {
                row[size] = message;
                size++;
            }
        }

        /** What is lost is not even made: a tick may send thousands into a full network. */
        void sendPlain(int kind, int from, int to, int ballot, int slot, Value value) {
            if (size >= MESSAGE_ROOM) {
                sent++;
                lost++;
            } else {
                send(new Message(kind, from, to, ballot, slot, value));
            }
        }
    }

    /**
     * VALUES for SLOTS, each with a mark (a BALLOT or a mask).
     * The SLOTS in use lie closer together than its width, a power of two, so each has a place of its own.
     */
    private static final class Row {
        /** 0: the place is free. */
        final int[] slots;
        final int[] marks;
        final Value[] values;

        Row(int width) {
            slots = new int[width];
            marks = new int[width];
            values = new Value[width];
        }

        Value valueAt(int slot) {
            int place = slot & (slots.length - 1);
            return slots[place] == slot ? values[place] : null;
        }

        /** 0 if nothing is there. */
        int markAt(int slot) {
            int place = slot & (slots.length - 1);
            return slots[place] == slot ? marks[place] : 0;
        }

        void put(int slot, int mark, Value value) {
            int place = slot & (slots.length - 1);
            slots[place] = slot;
            marks[place] = mark;
            values[place] = value;
        }

        void remove(int slot) {
            int place = slot & (slots.length - 1);
            if (slots[place] == slot) {
                clearPlace(place);
            }
        }

        void forgetUpTo(int last) {
            for (int place = 0; place < slots.length; place++) {
                if (slots[place] <= last) {
                    clearPlace(place);
                }
            }
        }

        void forgetAll() {
            for (int place = 0; place < slots.length; place++) {
                clearPlace(place);
            }
        }

        private void clearPlace(int place) {
            slots[place] = 0;
            marks[place] = 0;
            values[place] = null;
        }

        int size() {
            int found = 0;
            for (int place = 0; place < slots.length; place++) {
                if (slots[place] != 0) {
                    found++;
                }
            }
            return found;
        }

        /** The greatest SLOT; 0 if it is empty. */
        int lastSlot() {
            int last = 0;
            for (int place = 0; place < slots.length; place++) {
                last = Math.max(last, slots[place]);
            }
            return last;
        }

        Row twin() {
            Row made = new Row(slots.length);
            for (int place = 0; place < slots.length; place++) {
                made.slots[place] = slots[place];
                made.marks[place] = marks[place];
                made.values[place] = values[place];
            }
            return made;
        }
    }

    /** What APPLYING changes and a SNAPSHOT brings: the numbers, the clients and CONFIGS. */
    private static final class State {
        /** The first pair counts for A + 1, the others begin at A + 2 .. A + WINDOW: there are never more pairs. */
        static final int PAIRS = WINDOW;

        final long[] numbers = new long[KEYS];
        final int[] seqs = new int[CLIENTS];
        final long[] results = new long[CLIENTS];
        final int[] configSlots = new int[PAIRS];
        final int[] configMasks = new int[PAIRS];
        int configs;

        State(int members) {
            for (int i = 0; i < KEYS; i++) {
                numbers[i] = NO_NUMBER;
            }
            configSlots[0] = 1;
            configMasks[0] = members;
            configs = 1;
        }

        void takeOver(State other) {
            System.arraycopy(other.numbers, 0, numbers, 0, KEYS);
            System.arraycopy(other.seqs, 0, seqs, 0, CLIENTS);
            System.arraycopy(other.results, 0, results, 0, CLIENTS);
            System.arraycopy(other.configSlots, 0, configSlots, 0, PAIRS);
            System.arraycopy(other.configMasks, 0, configMasks, 0, PAIRS);
            configs = other.configs;
        }

        int configAt(int slot) {
            for (int i = configs - 1; i > 0; i--) {
                if (configSlots[i] <= slot) {
                    return configMasks[i];
                }
            }
            return configMasks[0];
        }

        /** All that are members at one of the SLOTS of the window behind applied. */
        int membersBehind(int applied) {
            int all = 0;
            for (int slot = applied + 1; slot <= applied + WINDOW; slot++) {
                all |= configAt(slot);
            }
            return all;
        }

        /** APPLYING the VALUE of a SLOT, which is A from now on. */
        void apply(Value value, int slot) {
            forgetConfigsBefore(slot + 1);
            if (value.kind == NOTHING || value.seq <= seqs[value.client]) {
                return;
            }
            seqs[value.client] = value.seq;
            results[value.client] = value.kind == MEMBERS
                    ? changeMembers(value.a & ALL_NODES, slot + WINDOW)
                    : changeNumber(value);
        }

        private void forgetConfigsBefore(int slot) {
            for (int turn = 0; turn < PAIRS && configs > 1 && configSlots[1] <= slot; turn++) {
                configs--;
                for (int i = 0; i < configs; i++) {
                    configSlots[i] = configSlots[i + 1];
                    configMasks[i] = configMasks[i + 1];
                }
            }
        }

        private long changeMembers(int mask, int firstSlot) {
            if (mask != 0 && configs < PAIRS) {
                configSlots[configs] = firstSlot;
                configMasks[configs] = mask;
                configs++;
            }
            return mask;
        }

        private long changeNumber(Value value) {
            long before = numbers[value.key];
            switch (value.kind) {
                case PUT:
                    numbers[value.key] = value.a;
                    return before;
                case TAKE:
                    numbers[value.key] = NO_NUMBER;
                    return before;
                case ADD:
                    int start = before == NO_NUMBER ? 0 : (int) before;
                    numbers[value.key] = start + value.a;
                    return numbers[value.key];
                case SWAP:
                    if (before != value.a) {
                        return 0;
                    }
                    numbers[value.key] = value.b;
                    return 1;
                default:
                    // GET changes nothing.
                    return before;
            }
        }
    }

    /** What a NODE has only while it LEADS. */
    private static final class Lead {
        final Value nothing = new Value(NOTHING, 0, 0, 0, 0, 0);
        int grants;
        final Row best = new Row(REACH);
        /** The marks are ACKS. */
        final Row proposals = new Row(WINDOW);
        final Value[] queue = new Value[QUEUE_ROOM];
        int queued;
        /** A and PEERS when the NODE last cared for A becoming greater. */
        int settledAt;
        int settledPeers;

        void clear() {
            grants = 0;
            best.forgetAll();
            proposals.forgetAll();
            for (int i = 0; i < QUEUE_ROOM; i++) {
                queue[i] = null;
            }
            queued = 0;
        }

        /** Of the ACCEPTED of some NODE those of the greatest BALLOT become BEST. */
        void lookAt(Row list, int applied) {
            for (int slot = applied + 1; slot <= applied + REACH; slot++) {
                if (list.markAt(slot) > best.markAt(slot)) {
                    best.put(slot, list.markAt(slot), list.valueAt(slot));
                }
            }
        }

        /** What to propose; null: WORK is over. */
        Value valueFor(int slot) {
            Value value = best.valueAt(slot);
            if (value != null) {
                return value;
            }
            if (best.lastSlot() > slot || proposals.lastSlot() > slot) {
                return nothing;
            }
            return dequeue();
        }

        boolean isQueueFull() {
            return queued >= QUEUE_ROOM;
        }

        void enqueue(Value value) {
            if (queued < QUEUE_ROOM) {
                queue[queued] = value;
                queued++;
            }
        }

        private Value dequeue() {
            if (queued == 0) {
                return null;
            }
            Value first = queue[0];
            queued--;
            for (int i = 0; i < queued; i++) {
                queue[i] = queue[i + 1];
            }
            queue[queued] = null;
            return first;
        }

        boolean isPending(int client, int seq) {
            return isAmong(queue, client, seq) || isAmong(proposals.values, client, seq);
        }

        private static boolean isAmong(Value[] values, int client, int seq) {
            for (Value value : values) {
                if (value != null && value.client == client && value.seq == seq) {
                    return true;
                }
            }
            return false;
        }
    }

    /** One of the seven NODES. */
    private static final class Node {
        final int number;
        final Network network;

        int promised;
        /** A. */
        int applied;
        int base;
        final State state;
        final Row accepted = new Row(REACH);
        final Row known = new Row(KNOWN_WIDTH);

        boolean live;
        boolean leads;
        int ballot;
        int timer;
        int leader;
        /** The greatest BALLOT that a REJECT told. */
        int told;
        final Lead lead = new Lead();

        Node(int number, int members, Network network) {
            this.number = number;
            this.network = network;
            state = new State(members);
            live = true;
            leader = -1;
            timer = 8 + 3 * number;
        }

        void start() {
            live = true;
            rest();
        }

        void stop() {
            live = false;
            leads = false;
            ballot = 0;
            timer = 0;
            leader = -1;
            told = 0;
            lead.clear();
        }

        private void rest() {
            timer = 8 + 3 * number;
        }

        private void stepDown() {
            leads = false;
            rest();
        }

        private int peers() {
            return state.membersBehind(applied) & ~(1 << number);
        }

        private void sendEach(int mask, int kind, int ballotTold, int slot, Value value) {
            for (int to = 0; to < NODES; to++) {
                if (isIn(mask, to)) {
                    network.sendPlain(kind, number, to, ballotTold, slot, value);
                }
            }
        }

        private void want(int from) {
            network.sendPlain(WANT, number, from, 0, applied + 1, null);
        }

        /** Its part of a TICK. */
        void passTime() {
            if (!live) {
                return;
            }
            timer--;
            if (timer > 0) {
                return;
            }
            if (leads) {
                timer = LEADER_TIMER;
                beat();
                return;
            }
            rest();
            if (isIn(state.configAt(applied + 1), number)) {
                beginToLead();
                work();
            }
        }

        private void beat() {
            int peers = peers();
            for (int to = 0; to < NODES; to++) {
                if (isIn(peers, to)) {
                    network.sendPlain(HEART, number, to, ballot, applied, null);
                }
                if (isIn(peers & ~lead.grants, to)) {
                    network.sendPlain(PREPARE, number, to, ballot, 0, null);
                }
            }
            for (int slot = applied + 1; slot <= applied + WINDOW; slot++) {
                Value value = lead.proposals.valueAt(slot);
                if (value != null) {
                    int missing = state.configAt(slot) & ~lead.proposals.markAt(slot) & ~(1 << number);
                    sendEach(missing, ACCEPT, ballot, slot, value);
                }
            }
        }

        private void beginToLead() {
            int greatest = Math.max(promised, Math.max(ballot, told));
            ballot = 8 * (greatest / 8 + 1) + number;
            lead.clear();
            leads = true;
            leader = number;
            timer = LEADER_TIMER;
            promised = ballot;
            lead.grants = 1 << number;
            lead.lookAt(accepted, applied);
            lead.settledAt = applied;
            lead.settledPeers = peers();
            sendEach(lead.settledPeers, PREPARE, ballot, 0, null);
        }

        /** WORK, as one loop: APPLYING what it has chosen itself asks for WORK again, which is the next turn. */
        void work() {
            for (int turn = 0; turn < MOST_WORK; turn++) {
                settle();
                int slot = openSlot();
                if (slot == 0 || !isMajority(state.configAt(slot), lead.grants)) {
                    return;
                }
                Value value = lead.valueFor(slot);
                if (value == null) {
                    return;
                }
                propose(slot, value);
                chooseIfAcknowledged(slot);
                applyKnown();
            }
        }

        /** What is due when A of a NODE that LEADS became greater. */
        private void settle() {
            if (lead.settledAt == applied) {
                return;
            }
            lead.proposals.forgetUpTo(applied);
            lead.best.forgetUpTo(applied);
            int peers = peers();
            sendEach(peers & ~lead.grants & ~lead.settledPeers, PREPARE, ballot, 0, null);
            lead.settledAt = applied;
            lead.settledPeers = peers;
        }

        /** The first SLOT of the window that has no PROPOSAL and is not KNOWN; 0: none. */
        private int openSlot() {
            for (int slot = applied + 1; slot <= applied + WINDOW; slot++) {
                if (lead.proposals.valueAt(slot) == null && known.valueAt(slot) == null) {
                    return slot;
                }
            }
            return 0;
        }

        private void propose(int slot, Value value) {
            int config = state.configAt(slot);
            int self = 1 << number;
            if (isIn(config, number)) {
                promised = Math.max(promised, ballot);
                accepted.put(slot, ballot, value);
            }
            lead.proposals.put(slot, config & self, value);
            sendEach(config & ~self, ACCEPT, ballot, slot, value);
        }

        private void chooseIfAcknowledged(int slot) {
            Value value = lead.proposals.valueAt(slot);
            if (value != null && isMajority(state.configAt(slot), lead.proposals.markAt(slot))) {
                sendEach(peers(), CHOSEN, 0, slot, value);
                learn(slot, value);
                lead.proposals.remove(slot);
            }
        }

        /** The first part of LEARNING; who calls it goes on with applyKnown. */
        private void learn(int slot, Value value) {
            if (slot > applied && slot <= applied + REACH && known.valueAt(slot) == null) {
                known.put(slot, 0, value);
            }
        }

        private void applyKnown() {
            for (int turn = 0; turn < REACH; turn++) {
                Value value = known.valueAt(applied + 1);
                if (value == null) {
                    break;
                }
                applied++;
                state.apply(value, applied);
            }
            base = Math.max(base, applied - KEPT);
            known.forgetUpTo(base);
            accepted.forgetUpTo(applied);
        }

        /** What ask answers: 0, if the request can be taken. */
        int refusal(int client, int seq) {
            if (!leads || !isMajority(state.configAt(applied + 1), lead.grants)) {
                return -1;
            }
            if (state.seqs[client] >= seq) {
                return -2;
            }
            if (lead.isPending(client, seq)) {
                return -3;
            }
            return lead.isQueueFull() ? -4 : 0;
        }

        void take(Value value) {
            lead.enqueue(value);
            work();
        }

        void receive(Message message) {
            boolean granted = false;
            switch (message.kind) {
                case PREPARE:
                    onPrepare(message);
                    break;
                case PROMISE:
                    granted = onPromise(message);
                    break;
                case REJECT:
                    onReject(message);
                    break;
                case ACCEPT:
                    onAccept(message);
                    break;
                case ACCEPTED:
                    onAccepted(message);
                    break;
                case HEART:
                    onHeart(message);
                    break;
                case WANT:
                    onWant(message);
                    break;
                case CHOSEN:
                    learn(message.slot, message.value);
                    break;
                default:
                    onSnapshot(message);
                    break;
            }
            applyKnown();
            if (leads && (granted || lead.settledAt != applied)) {
                work();
            }
        }

        /** "OLD b". */
        private boolean rejects(Message message) {
            if (message.ballot >= promised) {
                return false;
            }
            network.sendPlain(REJECT, number, message.from, promised, 0, null);
            return true;
        }

        /** "NEW b". */
        private void promise(int newBallot) {
            promised = newBallot;
            stepDownBefore(newBallot);
        }

        private void stepDownBefore(int greater) {
            if (leads && ballot < greater) {
                stepDown();
            }
        }

        private void follow(int newLeader) {
            leader = newLeader;
            rest();
        }

        private void onPrepare(Message message) {
            if (rejects(message)) {
                return;
            }
            promise(message.ballot);
            Message reply = new Message(PROMISE, number, message.from, message.ballot, applied, null);
            reply.list = accepted.twin();
            network.send(reply);
        }

        /** Answers whether there is a GRANT more to WORK with. */
        private boolean onPromise(Message message) {
            if (!leads || ballot != message.ballot || message.list == null) {
                return false;
            }
            if (message.slot > applied) {
                want(message.from);
                return false;
            }
            lead.grants |= 1 << message.from;
            lead.lookAt(message.list, applied);
            return true;
        }

        private void onReject(Message message) {
            told = Math.max(told, message.ballot);
            stepDownBefore(message.ballot);
        }

        private void onAccept(Message message) {
            if (rejects(message)) {
                return;
            }
            promise(message.ballot);
            if (message.from != number) {
                follow(message.from);
            }
            if (message.slot > applied + REACH) {
                want(message.from);
                return;
            }
            if (message.slot > applied) {
                accepted.put(message.slot, message.ballot, message.value);
            }
            network.sendPlain(ACCEPTED, number, message.from, message.ballot, message.slot, null);
        }

        private void onAccepted(Message message) {
            Value value = lead.proposals.valueAt(message.slot);
            if (!leads || ballot != message.ballot || value == null) {
                return;
            }
            int acks = lead.proposals.markAt(message.slot) | 1 << message.from;
            lead.proposals.put(message.slot, acks, value);
            chooseIfAcknowledged(message.slot);
        }

        private void onHeart(Message message) {
            if (rejects(message)) {
                return;
            }
            stepDownBefore(message.ballot);
            follow(message.from);
            if (message.slot > applied) {
                want(message.from);
            }
        }

        private void onWant(Message message) {
            if (message.slot <= base) {
                Message snapshot = new Message(SNAPSHOT, number, message.from, 0, applied, null);
                snapshot.state = new State(0);
                snapshot.state.takeOver(state);
                network.send(snapshot);
                return;
            }
            int last = Math.min(applied, message.slot + MOST_WANTED - 1);
            for (int slot = message.slot; slot <= last; slot++) {
                network.sendPlain(CHOSEN, number, message.from, 0, slot, known.valueAt(slot));
            }
        }

        private void onSnapshot(Message message) {
            if (message.state == null || message.slot <= applied) {
                return;
            }
            state.takeOver(message.state);
            applied = message.slot;
            base = message.slot;
        }
    }
}
