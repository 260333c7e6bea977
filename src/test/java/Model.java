import java.util.ArrayList;
import java.util.List;
import java.util.NoSuchElementException;
import java.util.TreeMap;

/**
 * The document once more, as plainly as the Java library lets it be said: maps without bounds, WORK that calls itself.
 * ModelTest holds QuorumStore against it.
 */
final class Model {
    static final long NONE = 1L << 40;

    record Value(int kind, int client, int seq, int key, int a, int b) { }

    record Ballot(int ballot, Value value) { }

    record Pair(int slot, int mask) { }

    static final class Proposal {
        final Value value;
        int acks;

        Proposal(Value value) {
            this.value = value;
        }
    }

    static final class Store {
        final TreeMap<Integer, Integer> numbers = new TreeMap<>();
        final int[] seqs = new int[8];
        final long[] results = new long[8];
        final List<Pair> configs = new ArrayList<>();

        Store twin() {
            Store made = new Store();
            made.numbers.putAll(numbers);
            System.arraycopy(seqs, 0, made.seqs, 0, 8);
            System.arraycopy(results, 0, made.results, 0, 8);
            made.configs.addAll(configs);
            return made;
        }
    }

    record Message(int kind, int from, int to, int ballot, int slot, Value value,
                   TreeMap<Integer, Ballot> list, Store store) { }

    final class Node {
        final int n;
        int promised;
        int a;
        int base;
        Store store = new Store();
        final TreeMap<Integer, Ballot> accepted = new TreeMap<>();
        final TreeMap<Integer, Value> known = new TreeMap<>();
        boolean live = true;
        boolean leads;
        int ballot;
        int timer;
        int leader = -1;
        int told;
        int grants;
        final TreeMap<Integer, Ballot> best = new TreeMap<>();
        final TreeMap<Integer, Proposal> proposals = new TreeMap<>();
        final List<Value> queue = new ArrayList<>();

        Node(int n, int members) {
            this.n = n;
            store.configs.add(new Pair(1, members));
            timer = 8 + 3 * n;
        }

        int config(int t) {
            int mask = 0;
            for (Pair pair : store.configs) {
                if (pair.slot <= t) {
                    mask = pair.mask;
                }
            }
            return mask;
        }

        List<Integer> peers() {
            List<Integer> all = new ArrayList<>();
            for (int i = 0; i < 7; i++) {
                boolean in = false;
                for (int t = a + 1; t <= a + 4; t++) {
                    in |= has(config(t), i);
                }
                if (in && i != n) {
                    all.add(i);
                }
            }
            return all;
        }

        void post(int kind, int to, int b, int t, Value v) {
            send(new Message(kind, n, to, b, t, v, null, null));
        }

        void applyWhatCanBe(int before, List<Integer> peersBefore) {
            while (known.containsKey(a + 1)) {
                a++;
                while (store.configs.size() > 1 && store.configs.get(1).slot <= a + 1) {
                    store.configs.remove(0);
                }
                apply(known.get(a));
            }
            base = Math.max(base, a - 16);
            known.headMap(base, true).clear();
            accepted.headMap(a, true).clear();
            if (leads && a > before) {
                proposals.headMap(a, true).clear();
                best.headMap(a, true).clear();
                for (int peer : peers()) {
                    if (!has(grants, peer) && !peersBefore.contains(peer)) {
                        post(1, peer, ballot, 0, null);
                    }
                }
                work();
            }
        }

        void apply(Value v) {
            if (v.kind == 0 || v.seq <= store.seqs[v.client]) {
                return;
            }
            store.seqs[v.client] = v.seq;
            Integer there = store.numbers.get(v.key);
            long result = there == null ? NONE : there;
            if (v.kind == 1) {
                store.numbers.put(v.key, v.a);
            } else if (v.kind == 2) {
                store.numbers.remove(v.key);
            } else if (v.kind == 3) {
                int sum = (there == null ? 0 : there) + v.a;
                store.numbers.put(v.key, sum);
                result = sum;
            } else if (v.kind == 4) {
                boolean same = there != null && there == v.a;
                if (same) {
                    store.numbers.put(v.key, v.b);
                }
                result = same ? 1 : 0;
            } else if (v.kind == 6) {
                result = v.a & 127;
                if (result != 0) {
                    store.configs.add(new Pair(a + 4, v.a & 127));
                }
            }
            store.results[v.client] = result;
        }

        void learn(int t, Value v) {
            if (t > a && t <= a + 32 && !known.containsKey(t)) {
                List<Integer> before = peers();
                known.put(t, v);
                applyWhatCanBe(a, before);
            }
        }

        void lookAt(TreeMap<Integer, Ballot> list) {
            for (int t : list.keySet()) {
                Ballot mine = best.get(t);
                if (t > a && (mine == null || list.get(t).ballot > mine.ballot)) {
                    best.put(t, list.get(t));
                }
            }
        }

        void beginToLead() {
            int r = Math.max(promised, Math.max(ballot, told)) / 8;
            ballot = 8 * (r + 1) + n;
            leads = true;
            best.clear();
            proposals.clear();
            queue.clear();
            leader = n;
            timer = 3;
            promised = ballot;
            grants = 1 << n;
            lookAt(accepted);
            for (int peer : peers()) {
                post(1, peer, ballot, 0, null);
            }
            work();
        }

        void stepDownBelow(int b) {
            if (leads && ballot < b) {
                leads = false;
                timer = 8 + 3 * n;
            }
        }

        void work() {
            boolean done = true;
            while (done) {
                done = false;
                int end = a + 4;
                for (int t = a + 1; t <= end; t++) {
                    if (t <= a || proposals.containsKey(t) || known.containsKey(t)) {
                        continue;
                    }
                    if (!majority(config(t), grants)) {
                        break;
                    }
                    Value v;
                    if (best.containsKey(t)) {
                        v = best.get(t).value;
                    } else if (best.higherKey(t) != null || proposals.higherKey(t) != null) {
                        v = new Value(0, 0, 0, 0, 0, 0);
                    } else if (!queue.isEmpty()) {
                        v = queue.remove(0);
                    } else {
                        return;
                    }
                    done = true;
                    propose(t, v);
                }
            }
        }

        void propose(int t, Value v) {
            Proposal made = new Proposal(v);
            proposals.put(t, made);
            int config = config(t);
            if (has(config, n)) {
                promised = Math.max(promised, ballot);
                accepted.put(t, new Ballot(ballot, v));
                made.acks |= 1 << n;
            }
            for (int i = 0; i < 7; i++) {
                if (i != n && has(config, i)) {
                    post(4, i, ballot, t, v);
                }
            }
            if (majority(config, made.acks)) {
                chosen(t);
            }
        }

        void chosen(int t) {
            Value v = proposals.get(t).value;
            for (int peer : peers()) {
                post(8, peer, 0, t, v);
            }
            learn(t, v);
            proposals.remove(t);
        }

        void tick() {
            if (!live || --timer > 0) {
                return;
            }
            if (!leads) {
                timer = 8 + 3 * n;
                if (has(config(a + 1), n)) {
                    beginToLead();
                }
                return;
            }
            timer = 3;
            for (int peer : peers()) {
                post(6, peer, ballot, a, null);
                if (!has(grants, peer)) {
                    post(1, peer, ballot, 0, null);
                }
            }
            for (int t : proposals.keySet()) {
                for (int i = 0; i < 7; i++) {
                    if (i != n && has(config(t), i) && !has(proposals.get(t).acks, i)) {
                        post(4, i, ballot, t, proposals.get(t).value);
                    }
                }
            }
        }

        boolean old(Message m) {
            if (m.ballot < promised) {
                post(3, m.from, promised, 0, null);
                return true;
            }
            return false;
        }

        void newBallot(int b) {
            promised = b;
            stepDownBelow(b);
        }

        void receive(Message m) {
            int b = m.ballot;
            int f = m.from;
            int t = m.slot;
            if (m.kind == 1 && !old(m)) {
                newBallot(b);
                send(new Message(2, n, f, b, a, null, new TreeMap<>(accepted), null));
            } else if (m.kind == 2 && leads && ballot == b) {
                if (t > a) {
                    post(7, f, 0, a + 1, null);
                } else {
                    grants |= 1 << f;
                    lookAt(m.list);
                    work();
                }
            } else if (m.kind == 3) {
                told = Math.max(told, b);
                stepDownBelow(b);
            } else if (m.kind == 4 && !old(m)) {
                newBallot(b);
                leader = f;
                timer = 8 + 3 * n;
                if (t > a + 32) {
                    post(7, f, 0, a + 1, null);
                } else {
                    if (t > a) {
                        accepted.put(t, new Ballot(b, m.value));
                    }
                    post(5, f, b, t, null);
                }
            } else if (m.kind == 5 && leads && ballot == b && proposals.containsKey(t)) {
                proposals.get(t).acks |= 1 << f;
                if (majority(config(t), proposals.get(t).acks)) {
                    chosen(t);
                }
            } else if (m.kind == 6 && !old(m)) {
                stepDownBelow(b);
                leader = f;
                timer = 8 + 3 * n;
                if (t > a) {
                    post(7, f, 0, a + 1, null);
                }
            } else if (m.kind == 7 && t > base) {
                for (int u = t; u <= Math.min(a, t + 7); u++) {
                    post(8, f, 0, u, known.get(u));
                }
            } else if (m.kind == 7) {
                send(new Message(9, n, f, 0, a, null, null, store.twin()));
            } else if (m.kind == 8) {
                learn(t, m.value);
            } else if (m.kind == 9 && t > a) {
                List<Integer> peersBefore = peers();
                int before = a;
                store = m.store.twin();
                a = t;
                base = t;
                known.headMap(t, true).clear();
                accepted.headMap(t, true).clear();
                applyWhatCanBe(before, peersBefore);
            }
        }
    }

    final Node[] nodes = new Node[7];
    final List<Message> row = new ArrayList<>();
    int nextKey;
    int sent;
    int lost;
    int delivered;

    Model(int members) {
        int mask = (members & 127) == 0 ? 7 : members & 127;
        for (int i = 0; i < 7; i++) {
            nodes[i] = new Node(i, mask);
        }
    }

    static boolean has(int mask, int node) {
        return (mask & 1 << node) != 0;
    }

    static boolean majority(int m, int g) {
        int in = 0;
        int all = 0;
        for (int i = 0; i < 7; i++) {
            all += has(m, i) ? 1 : 0;
            in += has(m & g, i) ? 1 : 0;
        }
        return in > all - in;
    }

    void send(Message m) {
        sent++;
        if (row.size() == 300) {
            lost++;
        } else {
            row.add(m);
        }
    }

    private Node nodeAt(int node) {
        noElementUnless(node >= 0 && node < 7);
        return nodes[node];
    }

    private Message messageAt(int k) {
        noElementUnless(k >= 0 && k < row.size());
        return row.get(k);
    }

    private static void noElementUnless(boolean there) {
        if (!there) {
            throw new NoSuchElementException();
        }
    }

    private static void argumentUnless(boolean right) {
        if (!right) {
            throw new IllegalArgumentException();
        }
    }

    private static void stateUnless(boolean right) {
        if (!right) {
            throw new IllegalStateException();
        }
    }

    int tick(int n) {
        argumentUnless(n >= 1 && n <= 50);
        for (int i = 0; i < n; i++) {
            for (Node node : nodes) {
                node.tick();
            }
        }
        return row.size();
    }

    int deliver(int k) {
        Message m = messageAt(k);
        row.remove(k);
        if (nodes[m.to].live) {
            delivered++;
            nodes[m.to].receive(m);
        }
        return m.to;
    }

    int drop(int k) {
        messageAt(k);
        row.remove(k);
        return row.size();
    }

    int copy(int k) {
        Message m = messageAt(k);
        stateUnless(row.size() < 300);
        row.add(m);
        return row.size();
    }

    int message(int k, int what) {
        Message m = messageAt(k);
        argumentUnless(what >= 0 && what <= 5);
        return new int[] {m.kind, m.from, m.to, m.ballot, m.slot, m.list == null ? 0 : m.list.size()}[what];
    }

    void fall(int node) {
        Node old = nodeAt(node);
        stateUnless(old.live);
        Node left = new Node(node, 127);
        left.promised = old.promised;
        left.a = old.a;
        left.base = old.base;
        left.store = old.store;
        left.accepted.putAll(old.accepted);
        left.known.putAll(old.known);
        left.live = false;
        left.timer = 0;
        nodes[node] = left;
    }

    void rise(int node) {
        stateUnless(!nodeAt(node).live);
        nodes[node].live = true;
        nodes[node].timer = 8 + 3 * node;
    }

    int key(int key) {
        argumentUnless(key >= 0 && key <= 31);
        int before = nextKey;
        nextKey = key;
        return before;
    }

    int ask(int node, int client, int seq, int kind, int a, int b) {
        Node asked = nodeAt(node);
        noElementUnless(client >= 0 && client <= 7);
        argumentUnless(kind >= 1 && kind <= 6 && seq >= 1);
        stateUnless(asked.live);
        if (!asked.leads || !majority(asked.config(asked.a + 1), asked.grants)) {
            return -1;
        }
        if (asked.store.seqs[client] >= seq) {
            return -2;
        }
        List<Value> pending = new ArrayList<>(asked.queue);
        for (Proposal proposal : asked.proposals.values()) {
            pending.add(proposal.value);
        }
        for (Value value : pending) {
            if (value.client == client && value.seq == seq) {
                return -3;
            }
        }
        if (asked.queue.size() == 16) {
            return -4;
        }
        asked.queue.add(new Value(kind, client, seq, nextKey, a, b));
        asked.work();
        return 0;
    }

    long answer(int node, int client, int what) {
        Node seen = nodeAt(node);
        noElementUnless(client >= 0 && client <= 7);
        argumentUnless(what == 0 || what == 1);
        return what == 0 ? seen.store.seqs[client] : seen.store.results[client];
    }

    long number(int node, int key) {
        Node seen = nodeAt(node);
        noElementUnless(key >= 0 && key <= 31);
        Integer there = seen.store.numbers.get(key);
        return there == null ? NONE : there;
    }

    int known(int node, int slot, int what) {
        Value v = nodeAt(node).known.get(slot);
        noElementUnless(v != null);
        argumentUnless(what >= 0 && what <= 5);
        return new int[] {v.kind, v.client, v.seq, v.key, v.a, v.b}[what];
    }

    int about(int node, int what) {
        Node s = nodeAt(node);
        argumentUnless(what >= 0 && what <= 13);
        return new int[] {s.live ? 1 : 0, s.leads ? 1 : 0, s.ballot, s.promised, s.a, s.base, s.config(s.a + 1),
            s.leader, s.timer, s.leads ? s.queue.size() : 0, s.leads ? s.grants : 0, s.leads ? s.proposals.size() : 0,
            s.accepted.size(), s.store.configs.size()}[what];
    }

    int count(int what) {
        return what < 0 || what > 3 ? -1 : new int[] {row.size(), sent, lost, delivered}[what];
    }
}
