/** Holds QuorumStore against Model in many runs of 512 calls, the last of which look at what has become of it. */
public final class ModelTest {
    private static final int RUNS = 3000;
    private static final int CALLS = 512;
    private static final int[] MASKS = {7, 7, 1, 2, 3, 15, 31, 127, 127, 96, 0, 4, 64, -1};

    private final int run;
    private final Chance chance;
    private final Model model;
    private final QuorumStore store;
    /** How this run is: how often in 100 calls it does what, and how wild the network is. */
    private final int askShare;
    private final int tickShare;
    private final int crashShare;
    private final int wildness;
    private final int membersShare;
    private final int mostTicks;
    /** With more MESSAGES on their way it does not tick. */
    private final int patience;
    private final int lookShare;
    /** The NODE that does not hear some kind of MESSAGE in this part of the run; 7: all do. */
    private int deaf = 7;
    /** 0: it hears nothing at all. */
    private int unheardKind;
    private int nextSeq = 1;
    private int calls;
    private final int[][] askedBefore = {{0, 1, 3, 1, 0}, {1, 2, 3, 1, 0}, {2, 3, 3, 1, 0}, {3, 4, 3, 1, 0}};

    private ModelTest(int run) {
        this.run = run;
        chance = new Chance(run);
        int members = MASKS[chance.below(MASKS.length)];
        model = new Model(members);
        store = new QuorumStore(members);
        askShare = chance.of(5, 15, 30, 50);
        tickShare = chance.of(2, 5, 10, 20);
        crashShare = chance.of(0, 0, 1, 3);
        wildness = chance.of(0, 10, 40, 100);
        membersShare = chance.of(0, 5, 20, 60);
        mostTicks = chance.of(3, 8, 12, 50);
        patience = chance.of(1, 4, 10, 30, 300);
        lookShare = chance.of(0, 5, 20);
    }

    public static void main(String[] args) {
        for (int run = 0; run < RUNS && Check.wrongSoFar() == 0; run++) {
            new ModelTest(run).play();
        }
        Check.finish();
    }

    private void play() {
        int changes = 40 + chance.below(360);
        while (calls < changes && Check.wrongSoFar() == 0) {
            if (chance.below(64) == 0) {
                deaf = chance.below(3) == 0 ? 7 : chance.of(0, 0, 1, 1, 2, 3, 4, 5, 6);
                unheardKind = chance.of(0, 0, Run.PREPARE, Run.ACCEPT, Run.ACCEPTED, Run.HEART, Run.CHOSEN);
            }
            if (chance.below(100) < lookShare) {
                look();
            } else {
                step();
            }
        }
        for (int node = 0; node < 7; node++) {
            for (int what = 0; what <= 13; what++) {
                lookAbout(node, what);
            }
        }
        while (calls < CALLS && Check.wrongSoFar() == 0) {
            look();
        }
    }

    private void compare(String name, Check.Call got, Check.Call want) {
        calls++;
        Check.same("run " + run + " call " + calls + ": " + name, Check.outcome(got), Check.outcome(want));
    }

    private void step() {
        int dice = chance.below(100);
        if (dice < 4) {
            askWrongly();
        } else if (dice < 4 + askShare) {
            ask();
        } else if (dice < 4 + askShare + tickShare && model.row.size() <= patience || model.row.isEmpty()) {
            int n = 1 + chance.below(mostTicks);
            compare("tick(" + n + ")", () -> store.tick(n), () -> model.tick(n));
        } else if (dice < 4 + askShare + tickShare + crashShare) {
            crash();
        } else {
            carry();
        }
    }

    private void crash() {
        int node = chance.below(7);
        if (model.nodes[node].live) {
            compare("fall(" + node + ")", () -> none(() -> store.fall(node)), () -> none(() -> model.fall(node)));
        } else {
            compare("rise(" + node + ")", () -> none(() -> store.rise(node)), () -> none(() -> model.rise(node)));
        }
    }

    private static long none(Runnable call) {
        call.run();
        return 0;
    }

    /** A MESSAGE is delivered, or, on a wild network, lost or doubled; mostly the first one. */
    private void carry() {
        int size = model.row.size();
        boolean wild = chance.below(100) < wildness;
        int k = wild && size > 0 ? chance.below(size) : 0;
        boolean unheard = k < size && model.row.get(k).to() == deaf
            && (unheardKind == 0 || model.row.get(k).kind() == unheardKind);
        int dice = unheard ? 0 : wild ? chance.below(10) : 9;
        if (dice == 0) {
            compare("drop(" + k + ")", () -> store.drop(k), () -> model.drop(k));
        } else if (dice == 1) {
            compare("copy(" + k + ")", () -> store.copy(k), () -> model.copy(k));
        } else {
            compare("deliver(" + k + ")", () -> store.deliver(k), () -> model.deliver(k));
        }
    }

    private void ask() {
        if (chance.below(6) == 0) {
            askAgain();
            return;
        }
        if (chance.below(3) == 0) {
            int key = chance.below(4) * 10;
            compare("key(" + key + ")", () -> store.key(key), () -> model.key(key));
        }
        int node = leaderOrAny();
        int client = chance.below(8);
        int seq = chance.below(8) == 0 ? 1 + chance.below(nextSeq) : nextSeq++;
        boolean members = chance.below(100) < membersShare;
        int kind = members ? 6 : 1 + chance.below(5);
        int a = members ? chance.below(128) : chance.of(1, 2, chance.below(5), Integer.MAX_VALUE, -1);
        int b = chance.below(5);
        askedBefore[chance.below(askedBefore.length)] = new int[] {client, seq, kind, a, b};
        compare("ask(" + node + ", " + client + ", " + seq + ", " + kind + ", " + a + ", " + b + ")",
            () -> store.ask(node, client, seq, kind, a, b), () -> model.ask(node, client, seq, kind, a, b));
    }

    /** As a client does that got no answer. */
    private void askAgain() {
        int node = leaderOrAny();
        int[] v = askedBefore[chance.below(askedBefore.length)];
        compare("ask of " + node + " for client " + v[0] + ", seq " + v[1] + " again",
            () -> store.ask(node, v[0], v[1], v[2], v[3], v[4]), () -> model.ask(node, v[0], v[1], v[2], v[3], v[4]));
    }

    private int leaderOrAny() {
        int start = chance.below(7);
        for (int i = 0; i < 7; i++) {
            int node = (start + i) % 7;
            if (model.nodes[node].leads && chance.below(10) > 0) {
                return node;
            }
        }
        return start;
    }

    private int any() {
        return chance.of(-1, 0, 1, 3, 6, 7, 8, 31, 32, 300, Integer.MIN_VALUE, Integer.MAX_VALUE);
    }

    private void askWrongly() {
        int x = any();
        int y = any();
        int z = any();
        switch (chance.below(13)) {
            case 0 -> compare("tick(" + x + ")", () -> store.tick(x), () -> model.tick(x));
            case 1 -> compare("deliver(" + x + ")", () -> store.deliver(x), () -> model.deliver(x));
            case 2 -> compare("drop(" + x + ")", () -> store.drop(x), () -> model.drop(x));
            case 3 -> compare("copy(" + x + ")", () -> store.copy(x), () -> model.copy(x));
            case 4 -> compare("message(" + x + ", " + y + ")",
                () -> store.message(x, y), () -> model.message(x, y));
            case 5 -> compare("fall(" + x + ")", () -> none(() -> store.fall(x)), () -> none(() -> model.fall(x)));
            case 6 -> compare("rise(" + x + ")", () -> none(() -> store.rise(x)), () -> none(() -> model.rise(x)));
            case 7 -> compare("key(" + x + ")", () -> store.key(x), () -> model.key(x));
            case 8 -> compare("ask(" + x + ", " + y + ", 1, " + z + ", 0, 0)",
                () -> store.ask(x, y, 1, z, 0, 0), () -> model.ask(x, y, 1, z, 0, 0));
            case 9 -> compare("answer(" + x + ", " + y + ", " + z + ")",
                () -> store.answer(x, y, z), () -> model.answer(x, y, z));
            case 10 -> compare("number(" + x + ", " + y + ")",
                () -> store.number(x, y), () -> model.number(x, y));
            case 11 -> compare("known(" + x + ", " + y + ", " + z + ")",
                () -> store.known(x, y, z), () -> model.known(x, y, z));
            default -> compare("about(" + x + ", " + y + ")",
                () -> store.about(x, y), () -> model.about(x, y));
        }
    }

    private void look() {
        int node = chance.below(7);
        switch (chance.below(12)) {
            case 0 -> lookCount(chance.below(4));
            case 1, 2, 3, 4 -> lookMessage(chance.below(model.row.size() + 1), chance.below(6));
            case 5, 6 -> lookKnown(node, model.nodes[node].a + chance.below(51) - 17, chance.below(6));
            case 7 -> lookNumber(node, chance.below(4) * 10);
            case 8 -> lookAnswer(node, chance.below(8), chance.below(2));
            default -> lookAbout(node, chance.below(14));
        }
    }

    private void lookCount(int what) {
        compare("count(" + what + ")", () -> store.count(what), () -> model.count(what));
    }

    private void lookMessage(int k, int what) {
        compare("message(" + k + ", " + what + ")", () -> store.message(k, what), () -> model.message(k, what));
    }

    private void lookKnown(int node, int slot, int what) {
        compare("known(" + node + ", " + slot + ", " + what + ")",
            () -> store.known(node, slot, what), () -> model.known(node, slot, what));
    }

    private void lookNumber(int node, int key) {
        compare("number(" + node + ", " + key + ")", () -> store.number(node, key), () -> model.number(node, key));
    }

    private void lookAnswer(int node, int client, int what) {
        compare("answer(" + node + ", " + client + ", " + what + ")",
            () -> store.answer(node, client, what), () -> model.answer(node, client, what));
    }

    private void lookAbout(int node, int what) {
        compare("about(" + node + ", " + what + ")", () -> store.about(node, what), () -> model.about(node, what));
    }

    /** The same throws of the dice for the same run, always. */
    private static final class Chance {
        private long state;

        Chance(int seed) {
            state = seed * 0x9E3779B97F4A7C15L + 12345;
        }

        int below(int bound) {
            state = state * 6364136223846793005L + 1442695040888963407L;
            return (int) ((state >>> 33) % bound);
        }

        int of(int... choices) {
            return choices[below(choices.length)];
        }
    }
}
