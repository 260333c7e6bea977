import java.util.ArrayList;
import java.util.List;
import java.util.function.ToLongFunction;

/**
 * A QuorumStore that is never called more than 512 times, as nothing is promised behind that.
 * When its calls are spent, a new one is brought to the same state by the same changing calls, and goes on.
 */
final class Limited {
    private static final int MOST_CALLS = 512;

    private final int members;
    private final List<ToLongFunction<QuorumStore>> changes = new ArrayList<>();
    private QuorumStore store;
    private int calls;

    Limited(int members) {
        this.members = members;
        store = new QuorumStore(members);
    }

    private long change(ToLongFunction<QuorumStore> call) {
        QuorumStore now = spendCall();
        changes.add(call);
        return call.applyAsLong(now);
    }

    /** Only a look that threw is kept among the changes: whether it changed nothing is to be seen. */
    private long look(ToLongFunction<QuorumStore> call) {
        QuorumStore now = spendCall();
        try {
            return call.applyAsLong(now);
        } catch (RuntimeException e) {
            changes.add(call);
            throw e;
        }
    }

    private QuorumStore spendCall() {
        if (calls == MOST_CALLS) {
            renew();
        }
        calls++;
        return store;
    }

    private void renew() {
        if (changes.size() >= MOST_CALLS) {
            throw new UnsupportedOperationException("the test changes one object by more than 512 calls");
        }
        store = new QuorumStore(members);
        for (ToLongFunction<QuorumStore> call : changes) {
            try {
                call.applyAsLong(store);
            } catch (RuntimeException e) {
                // It threw the first time, too, and whoever made the call has looked at that.
            }
        }
        calls = changes.size();
    }

    int tick(int n) {
        return (int) change(store -> store.tick(n));
    }

    int deliver(int k) {
        return (int) change(store -> store.deliver(k));
    }

    int drop(int k) {
        return (int) change(store -> store.drop(k));
    }

    int copy(int k) {
        return (int) change(store -> store.copy(k));
    }

    int message(int k, int what) {
        return (int) look(store -> store.message(k, what));
    }

    void fall(int node) {
        change(store -> {
            store.fall(node);
            return 0;
        });
    }

    void rise(int node) {
        change(store -> {
            store.rise(node);
            return 0;
        });
    }

    int key(int key) {
        return (int) change(store -> store.key(key));
    }

    int ask(int node, int client, int seq, int kind, int a, int b) {
        return (int) change(store -> store.ask(node, client, seq, kind, a, b));
    }

    long answer(int node, int client, int what) {
        return look(store -> store.answer(node, client, what));
    }

    long number(int node, int key) {
        return look(store -> store.number(node, key));
    }

    int known(int node, int slot, int what) {
        return (int) look(store -> store.known(node, slot, what));
    }

    int about(int node, int what) {
        return (int) look(store -> store.about(node, what));
    }

    int count(int what) {
        return (int) look(store -> store.count(what));
    }
}
