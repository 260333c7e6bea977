/** The example of README.md, call by call. */
public final class ReadmeTest {
    private ReadmeTest() { }

    public static void main(String[] args) {
        QuorumStore store = new QuorumStore(7);
        store.tick(8);
        Check.due("node 0 leads", store.about(0, 1), 1);
        deliverAll(store);
        store.key(3);
        Check.due("ask(0, 1, 1, 1, 50, 0)", store.ask(0, 1, 1, 1, 50, 0), 0);
        deliverAll(store);
        Check.due("number(2, 3)", store.number(2, 3), 50);
        Check.due("answer(2, 1, 1)", store.answer(2, 1, 1), 1L << 40);
        Check.finish();
    }

    private static void deliverAll(QuorumStore store) {
        while (store.count(0) > 0) {
            store.deliver(0);
        }
    }
}
