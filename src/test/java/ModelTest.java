/** Holds QuorumStore against Model in many runs of 512 calls: every answer, and now and then all that can be seen. */
public final class ModelTest {
    private static final int RUNS = 800;
    private static final int CALLS = 512;
    private static final int[] MASKS = {7, 7, 1, 2, 3, 15, 31, 127, 127, 96, 0, 4, 64, -1};

    private final int run;
    private final Chance chance;
    private final Model model;
    private final QuorumStore store;
    /** How this run is: how often in 100 calls it does what, and how wild the network is. */
    private final int askShare;
    private final int tickShare;
    private final int crashShare;
    private final int wildness;
    private final int membersShare;
    private final int mostTicks;
    /** With more MESSAGES on their way it does not tick. */
    private final int patience;
    /** The NODE that does not hear some kind of MESSAGE in this part of the run; 7: all do. */
    private int deaf = 7;
    /** 0: it hears nothing at all. */
    private int unheardKind;
    private int nextSeq = 1;
    private final int[][] askedBefore = {{0, 1, 3, 1, 0}, {1, 2, 3, 1, 0}, {2, 3, 3, 1, 0}, {3, 4, 3, 1, 0}};

    private ModelTest(int run) {
        this.run = run;
        chance = new Chance(run);
        int members = MASKS[chance.below(MASKS.length)];
        model = new Model(members);
        store = new QuorumStore(members);
        askShare = chance.of(5, 15, 30, 50);
        tickShare = chance.of(2, 5, 10, 20);
        crashShare = chance.of(0, 0, 1, 3);
        wildness = chance.of(0, 10, 40, 100);
        membersShare = chance.of(0, 5, 20, 60);
        mostTicks = chance.of(3, 8, 12, 50);
        patience = chance.of(1, 4, 10, 30, 300);
    }

    public static void main(String[] args) {
        for (int run = 0; run < RUNS && Check.wrongSoFar() == 0; run++) {
            new ModelTest(run).play();
        }
        Check.finish();
    }

    private void play() {
        for (int call = 1; call <= CALLS && Check.wrongSoFar() == 0; call++) {
            if (call % 64 == 0) {
                deaf = chance.below(3) == 0 ? 7 : chance.of(0, 0, 1, 1, 2, 3, 4, 5, 6);
                unheardKind = chance.of(0, 0, Run.PREPARE, Run.ACCEPT, Run.ACCEPTED, Run.HEART, Run.CHOSEN);
            }
            step("run " + run + " call " + call + ": ");
            if (call % 64 == 32) {
                compareAll("run " + run + " after call " + call + ": ");
            }
        }
    }

    private void compare(String name, Check.Call got, Check.Call want) {
        Check.same(name, Check.outcome(got), Check.outcome(want));
    }

    private void step(String at) {
        int dice = chance.below(100);
        if (dice < 4) {
            askWrongly(at);
        } else if (dice < 4 + askShare) {
            ask(at);
        } else if (dice < 4 + askShare + tickShare && model.row.size() <= patience || model.row.isEmpty()) {
            int n = 1 + chance.below(mostTicks);
            compare(at + "tick(" + n + ")", () -> store.tick(n), () -> model.tick(n));
        } else if (dice < 4 + askShare + tickShare + crashShare) {
            crash(at);
        } else {
            carry(at);
        }
    }

    private void crash(String at) {
        int node = chance.below(7);
        if (model.nodes[node].live) {
            compare(at + "fall(" + node + ")", () -> none(() -> store.fall(node)), () -> none(() -> model.fall(node)));
        } else {
            compare(at + "rise(" + node + ")", () -> none(() -> store.rise(node)), () -> none(() -> model.rise(node)));
        }
    }

    private static long none(Runnable call) {
        call.run();
        return 0;
    }

    /** A MESSAGE is delivered, or, on a wild network, lost or doubled; mostly the first one. */
    private void carry(String at) {
        int size = model.row.size();
        boolean wild = chance.below(100) < wildness;
        int k = wild && size > 0 ? chance.below(size) : 0;
        boolean unheard = k < size && model.row.get(k).to() == deaf
            && (unheardKind == 0 || model.row.get(k).kind() == unheardKind);
        int dice = unheard ? 0 : wild ? chance.below(10) : 9;
        if (dice == 0) {
            compare(at + "drop(" + k + ")", () -> store.drop(k), () -> model.drop(k));
        } else if (dice == 1) {
            compare(at + "copy(" + k + ")", () -> store.copy(k), () -> model.copy(k));
        } else {
            compare(at + "deliver(" + k + ")", () -> store.deliver(k), () -> model.deliver(k));
        }
    }

    private void ask(String at) {
        if (chance.below(6) == 0) {
            askAgain(at);
            return;
        }
        if (chance.below(3) == 0) {
            int key = chance.below(4) * 10;
            compare(at + "key(" + key + ")", () -> store.key(key), () -> model.key(key));
        }
        int node = leaderOrAny();
        int client = chance.below(8);
        int seq = chance.below(8) == 0 ? 1 + chance.below(nextSeq) : nextSeq++;
        boolean members = chance.below(100) < membersShare;
        int kind = members ? 6 : 1 + chance.below(5);
        int a = members ? chance.below(128) : chance.of(1, 2, chance.below(5), Integer.MAX_VALUE, -1);
        int b = chance.below(5);
        askedBefore[chance.below(askedBefore.length)] = new int[] {client, seq, kind, a, b};
        compare(at + "ask(" + node + ", " + client + ", " + seq + ", " + kind + ", " + a + ", " + b + ")",
            () -> store.ask(node, client, seq, kind, a, b), () -> model.ask(node, client, seq, kind, a, b));
    }

    /** As a client does that got no answer. */
    private void askAgain(String at) {
        int node = leaderOrAny();
        int[] v = askedBefore[chance.below(askedBefore.length)];
        compare(at + "ask of " + node + " for client " + v[0] + ", seq " + v[1] + " again",
            () -> store.ask(node, v[0], v[1], v[2], v[3], v[4]), () -> model.ask(node, v[0], v[1], v[2], v[3], v[4]));
    }

    private int leaderOrAny() {
        int start = chance.below(7);
        for (int i = 0; i < 7; i++) {
            int node = (start + i) % 7;
            if (model.nodes[node].leads && chance.below(10) > 0) {
                return node;
            }
        }
        return start;
    }

    private int any() {
        return chance.of(-1, 0, 1, 3, 6, 7, 8, 31, 32, 300, Integer.MIN_VALUE, Integer.MAX_VALUE);
    }

    private void askWrongly(String at) {
        int x = any();
        int y = any();
        int z = any();
        switch (chance.below(13)) {
            case 0 -> compare(at + "tick(" + x + ")", () -> store.tick(x), () -> model.tick(x));
            case 1 -> compare(at + "deliver(" + x + ")", () -> store.deliver(x), () -> model.deliver(x));
            case 2 -> compare(at + "drop(" + x + ")", () -> store.drop(x), () -> model.drop(x));
            case 3 -> compare(at + "copy(" + x + ")", () -> store.copy(x), () -> model.copy(x));
            case 4 -> compare(at + "message(" + x + ", " + y + ")",
                () -> store.message(x, y), () -> model.message(x, y));
            case 5 -> compare(at + "fall(" + x + ")", () -> none(() -> store.fall(x)), () -> none(() -> model.fall(x)));
            case 6 -> compare(at + "rise(" + x + ")", () -> none(() -> store.rise(x)), () -> none(() -> model.rise(x)));
            case 7 -> compare(at + "key(" + x + ")", () -> store.key(x), () -> model.key(x));
            case 8 -> compare(at + "ask(" + x + ", " + y + ", 1, " + z + ", 0, 0)",
                () -> store.ask(x, y, 1, z, 0, 0), () -> model.ask(x, y, 1, z, 0, 0));
            case 9 -> compare(at + "answer(" + x + ", " + y + ", " + z + ")",
                () -> store.answer(x, y, z), () -> model.answer(x, y, z));
            case 10 -> compare(at + "number(" + x + ", " + y + ")",
                () -> store.number(x, y), () -> model.number(x, y));
            case 11 -> compare(at + "known(" + x + ", " + y + ", " + z + ")",
                () -> store.known(x, y, z), () -> model.known(x, y, z));
            default -> compare(at + "about(" + x + ", " + y + ")",
                () -> store.about(x, y), () -> model.about(x, y));
        }
    }

    /** These calls change nothing, so they do not count among the 512. */
    private void compareAll(String at) {
        for (int what = -1; what <= 4; what++) {
            int w = what;
            compare(at + "count(" + w + ")", () -> store.count(w), () -> model.count(w));
        }
        for (int k = 0; k < model.row.size(); k++) {
            for (int what = 0; what <= 5; what++) {
                int m = k;
                int w = what;
                compare(at + "message(" + m + ", " + w + ")", () -> store.message(m, w), () -> model.message(m, w));
            }
        }
        for (int node = 0; node < 7; node++) {
            compareNode(at, node);
        }
    }

    private void compareNode(String at, int node) {
        for (int what = 0; what <= 13; what++) {
            int w = what;
            compare(at + "about(" + node + ", " + w + ")", () -> store.about(node, w), () -> model.about(node, w));
        }
        for (int key = 0; key < 32; key++) {
            int k = key;
            compare(at + "number(" + node + ", " + k + ")", () -> store.number(node, k), () -> model.number(node, k));
        }
        for (int client = 0; client < 8; client++) {
            int c = client;
            compare(at + "answer(" + node + ", " + c + ", 0)",
                () -> store.answer(node, c, 0), () -> model.answer(node, c, 0));
            compare(at + "answer(" + node + ", " + c + ", 1)",
                () -> store.answer(node, c, 1), () -> model.answer(node, c, 1));
        }
        int a = model.nodes[node].a;
        for (int slot = a - 17; slot <= a + 33; slot++) {
            int s = slot;
            int most = model.nodes[node].known.containsKey(s) ? 5 : 0;
            for (int what = 0; what <= most; what++) {
                int w = what;
                compare(at + "known(" + node + ", " + s + ", " + w + ")",
                    () -> store.known(node, s, w), () -> model.known(node, s, w));
            }
        }
    }

    /** The same throws of the dice for the same run, always. */
    private static final class Chance {
        private long state;

        Chance(int seed) {
            state = seed * 0x9E3779B97F4A7C15L + 12345;
        }

        int below(int bound) {
            state = state * 6364136223846793005L + 1442695040888963407L;
            return (int) ((state >>> 33) % bound);
        }

        int of(int... choices) {
            return choices[below(choices.length)];
        }
    }
}
