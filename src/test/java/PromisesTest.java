/** Each promise by hand: ordinary inputs, the edges that the document names, wrong inputs. */
public final class PromisesTest {
    private static final int LEAST = Integer.MIN_VALUE;
    private static final int MOST = Integer.MAX_VALUE;
    private static final int[] NO_NODES = {-1, 7, LEAST, MOST};

    private PromisesTest() { }

    public static void main(String[] args) {
        promise1NewObject();
        promise2Tick();
        promise2TickEdges();
        promise3Deliver();
        promise4Drop();
        promise5Copy();
        promise6Message();
        promise6MessageOfEachKind();
        promise7Fall();
        promise8Rise();
        promise9Key();
        promise10AskAnswers();
        promise10AskExceptions();
        promise11Answer();
        promise12Number();
        promise13Known();
        promise14About();
        promise14AboutWhenFallen();
        promise15Count();
        Check.finish();
    }

    private static long none(Runnable call) {
        call.run();
        return 0;
    }

    private static void promise1NewObject() {
        int[][] masks = {{1, 1}, {7, 7}, {127, 127}, {64, 64}, {0, 7}, {128, 7}, {-1, 127}, {261, 5}, {LEAST, 7}};
        for (int[] mask : masks) {
            Run run = new Run(mask[0]);
            String name = "new QuorumStore(" + mask[0] + ")";
            for (int node = 0; node < 7; node++) {
                int[] due = {1, 0, 0, 0, 0, 0, mask[1], -1, 8 + 3 * node, 0, 0, 0, 0, 1};
                for (int what = 0; what < due.length; what++) {
                    run.aboutIs(name, node, what, due[what]);
                }
                for (int key = 0; key < 32; key++) {
                    Check.due(name + ": number", run.x.number(node, key), Run.NONE);
                }
                for (int client = 0; client < 8; client++) {
                    Check.due(name + ": seq", run.x.answer(node, client, 0), 0);
                    Check.due(name + ": RESULT", run.x.answer(node, client, 1), 0);
                }
            }
            for (int what = 0; what < 4; what++) {
                Check.due(name + ": count", run.x.count(what), 0);
            }
        }
    }

    private static void promise2Tick() {
        Run run = new Run(7);
        Check.due("tick(1)", run.x.tick(1), 0);
        for (int node = 0; node < 7; node++) {
            run.aboutIs("after tick(1)", node, 8, 7 + 3 * node);
        }
        Check.due("tick(7)", run.x.tick(7), 2);
        run.wireIs("0 begins to LEAD", "1:0>1(8,0) 1:0>2(8,0)");
        run.aboutIs("0 LEADS", 0, 1, 1);
        run.aboutIs("0 LEADS", 0, 2, 8);
        run.aboutIs("0 LEADS", 0, 3, 8);
        run.aboutIs("0 LEADS", 0, 7, 0);
        run.aboutIs("0 LEADS", 0, 8, 3);
        run.aboutIs("0 LEADS", 0, 10, 1);
        run.dropAll();
        Check.due("tick(2)", run.x.tick(2), 0);
        Check.due("tick(1): HEART and PREPARE to each, then 1 LEADS", run.x.tick(1), 6);
        run.wireIs("at TICK 11", "6:0>1(8,0) 1:0>1(8,0) 6:0>2(8,0) 1:0>2(8,0) 1:1>0(9,0) 1:1>2(9,0)");
        run.aboutIs("0 after its HEART", 0, 8, 3);
        run.aboutIs("3 is no member", 3, 8, 6);
        run.dropAll();
        run.x.tick(6);
        run.aboutIs("3 is no member", 3, 1, 0);
        run.aboutIs("3 is no member", 3, 8, 17);
        run.aboutIs("3 is no member", 3, 2, 0);
    }

    private static void promise2TickEdges() {
        Run run = new Run(7);
        for (int n : new int[] {0, 51, -1, LEAST, MOST}) {
            run.refuses("tick(" + n + ")", () -> run.x.tick(n), Check.ARGUMENT);
        }
        run.x.fall(0);
        Check.due("tick(10) without 0", run.x.tick(10), 0);
        run.aboutIs("0 has no TIMER", 0, 8, 0);
        run.aboutIs("0 has no BALLOT", 0, 2, 0);
        Run full = new Run(127);
        Check.due("tick(50)", full.x.tick(50), 300);
        full.aboutIs("all 50 TICKS happened", 6, 1, 1);
        Check.due("sent less lost", full.x.count(1) - full.x.count(2), 300);
    }

    private static void promise3Deliver() {
        Run run = new Run(7);
        run.refuses("deliver(0) of nothing", () -> run.x.deliver(0), Check.NO_ELEMENT);
        run.x.tick(8);
        for (int k : new int[] {-1, 2, LEAST, MOST}) {
            run.refuses("deliver(" + k + ")", () -> run.x.deliver(k), Check.NO_ELEMENT);
        }
        Check.due("deliver(1)", run.x.deliver(1), 2);
        run.wireIs("after deliver(1)", "1:0>1(8,0) 2:2>0(8,0)");
        run.aboutIs("2 promised", 2, 3, 8);
        run.aboutIs("1 did not", 1, 3, 0);
        run.x.fall(1);
        Check.due("deliver(0) to one that fell", run.x.deliver(0), 1);
        run.wireIs("it is lost", "2:2>0(8,0)");
        Check.due("delivered", run.x.count(3), 1);
        run.aboutIs("1 did not promise", 1, 3, 0);
        Check.due("deliver(0)", run.x.deliver(0), 0);
        run.aboutIs("GRANTS", 0, 10, 5);
    }

    private static void promise4Drop() {
        Run run = new Run(15);
        run.refuses("drop(0) of nothing", () -> run.x.drop(0), Check.NO_ELEMENT);
        run.x.tick(8);
        for (int k : new int[] {-1, 3, LEAST, MOST}) {
            run.refuses("drop(" + k + ")", () -> run.x.drop(k), Check.NO_ELEMENT);
        }
        Check.due("drop(1)", run.x.drop(1), 2);
        run.wireIs("after drop(1)", "1:0>1(8,0) 1:0>3(8,0)");
        Check.due("drop(1)", run.x.drop(1), 1);
        Check.due("drop(0)", run.x.drop(0), 0);
        run.aboutIs("nothing was delivered", 2, 3, 0);
        Check.due("delivered", run.x.count(3), 0);
        Check.due("none was lost for want of room", run.x.count(2), 0);
    }

    private static void promise5Copy() {
        Run run = new Run(7);
        run.refuses("copy(0) of nothing", () -> run.x.copy(0), Check.NO_ELEMENT);
        run.x.tick(8);
        for (int k : new int[] {-1, 2, LEAST, MOST}) {
            run.refuses("copy(" + k + ")", () -> run.x.copy(k), Check.NO_ELEMENT);
        }
        Check.due("copy(0)", run.x.copy(0), 3);
        run.wireIs("after copy(0)", "1:0>1(8,0) 1:0>2(8,0) 1:0>1(8,0)");
        Check.due("sent", run.x.count(1), 2);
        Check.due("deliver(2)", run.x.deliver(2), 1);
        Check.due("deliver(0)", run.x.deliver(0), 1);
        run.wireIs("both were answered", "1:0>2(8,0) 2:1>0(8,0) 2:1>0(8,0)");
        for (int size = 4; size <= 300; size++) {
            Check.due("copy(0)", run.x.copy(0), size);
        }
        run.refuses("copy(0) of 300", () -> run.x.copy(0), Check.STATE);
        run.refuses("copy(299) of 300", () -> run.x.copy(299), Check.STATE);
        run.refuses("copy(300) of 300", () -> run.x.copy(300), Check.NO_ELEMENT);
        run.refuses("copy(-1) of 300", () -> run.x.copy(-1), Check.NO_ELEMENT);
        Check.due("none was lost for want of room", run.x.count(2), 0);
    }

    private static void promise6Message() {
        Run run = new Run(7);
        run.refuses("message(0, 0) of nothing", () -> run.x.message(0, 0), Check.NO_ELEMENT);
        run.refuses("message(0, 6) of nothing", () -> run.x.message(0, 6), Check.NO_ELEMENT);
        run.x.tick(8);
        int[] due = {1, 0, 2, 8, 0, 0};
        for (int what = 0; what < 6; what++) {
            Check.due("message(1, " + what + ")", run.x.message(1, what), due[what]);
        }
        for (int what : new int[] {-1, 6, LEAST, MOST}) {
            run.refuses("message(1, " + what + ")", () -> run.x.message(1, what), Check.ARGUMENT);
            run.refuses("message(2, " + what + ")", () -> run.x.message(2, what), Check.NO_ELEMENT);
            run.refuses("message(-1, " + what + ")", () -> run.x.message(-1, what), Check.NO_ELEMENT);
        }
    }

    private static void messageIs(Run run, String name, int k, int... due) {
        for (int what = 0; what < 6; what++) {
            Check.due(name + ": message(" + k + ", " + what + ")", run.x.message(k, what), due[what]);
        }
    }

    private static void promise6MessageOfEachKind() {
        Run run = Run.ledBy0(7);
        run.x.ask(0, 1, 1, Run.PUT, 5, 0);
        messageIs(run, "ACCEPT", 0, 4, 0, 1, 8, 1, 0);
        run.hand(Run.ACCEPT, 1);
        messageIs(run, "ACCEPTED", 1, 5, 1, 0, 8, 1, 0);
        run.hand(Run.ACCEPTED, 0);
        messageIs(run, "CHOSEN", 1, 8, 0, 1, 0, 1, 0);
        run.dropAll();
        run.x.tick(3);
        run.hand(Run.HEART, 1);
        messageIs(run, "HEART", 0, 6, 0, 2, 8, 1, 0);
        messageIs(run, "WANT", 1, 7, 1, 0, 0, 1, 0);
        run.dropAll();
        run.x.ask(0, 1, 2, Run.PUT, 6, 0);
        run.x.ask(0, 1, 3, Run.PUT, 7, 0);
        run.hand(Run.ACCEPT, 2);
        run.hand(Run.ACCEPT, 2);
        run.dropAll();
        run.x.fall(0);
        run.x.tick(11);
        run.wireIs("1 begins to LEAD", "1:1>0(17,0) 1:1>2(17,0)");
        run.hand(Run.PREPARE, 2);
        messageIs(run, "PROMISE with two ACCEPTED", 1, 2, 2, 1, 17, 0, 2);

        Run rivals = new Run(7);
        rivals.x.tick(11);
        rivals.hand(Run.PREPARE, 2);
        rivals.dropAll();
        rivals.x.tick(3);
        rivals.dropAll();
        rivals.x.tick(3);
        Check.same("MESSAGES of three rivals", rivals.wire(), "6:0>1(8,0) 1:0>1(8,0) 6:0>2(8,0) 1:0>2(8,0)"
            + " 6:1>0(9,0) 1:1>0(9,0) 6:1>2(9,0) 1:1>2(9,0) 6:2>0(18,0) 1:2>0(18,0) 6:2>1(18,0) 1:2>1(18,0)");
        rivals.x.deliver(0);
        rivals.x.deliver(2);
        messageIs(rivals, "REJECT", 10, 3, 1, 0, 9, 0, 0);
        messageIs(rivals, "REJECT", 11, 3, 2, 0, 18, 0, 0);

        Run alone = Run.ledBy0(1);
        for (int seq = 1; seq <= 17; seq++) {
            alone.x.ask(0, 0, seq, Run.ADD, 1, 0);
        }
        alone.x.ask(0, 0, 18, Run.MEMBERS, 3, 0);
        alone.dropAll();
        alone.x.tick(3);
        alone.hand(Run.HEART, 1);
        alone.hand(Run.WANT, 0);
        messageIs(alone, "SNAPSHOT", 1, 9, 0, 1, 0, 18, 0);
    }

    private static void promise7Fall() {
        Run run = Run.ledBy0(7);
        for (int node : NO_NODES) {
            run.refuses("fall(" + node + ")", () -> none(() -> run.x.fall(node)), Check.NO_ELEMENT);
        }
        run.x.ask(0, 1, 1, Run.PUT, 5, 0);
        run.settle();
        run.x.ask(0, 1, 2, Run.PUT, 6, 0);
        String wire = run.wire();
        run.x.fall(0);
        run.wireIs("what is on its way stays", wire);
        int[] due = {0, 0, 0, 8, 1, 0, 7, -1, 0, 0, 0, 0, 1, 1};
        for (int what = 0; what < due.length; what++) {
            run.aboutIs("0 fell", 0, what, due[what]);
        }
        Check.due("its STATE stays", run.x.number(0, 0), 5);
        Check.due("its clients stay", run.x.answer(0, 1, 0), 1);
        Check.due("what it KNOWS stays", run.x.known(0, 1, 4), 5);
        run.refuses("fall(0) again", () -> none(() -> run.x.fall(0)), Check.STATE);
        run.x.tick(4);
        run.aboutIs("0 does not tick", 0, 8, 0);
    }

    private static void promise8Rise() {
        Run run = Run.ledBy0(7);
        for (int node : NO_NODES) {
            run.refuses("rise(" + node + ")", () -> none(() -> run.x.rise(node)), Check.NO_ELEMENT);
        }
        run.refuses("rise(0) of one that is LIVE", () -> none(() -> run.x.rise(0)), Check.STATE);
        run.x.ask(0, 1, 1, Run.PUT, 5, 0);
        run.x.fall(0);
        run.x.fall(5);
        run.x.rise(0);
        int[] due = {1, 0, 0, 8, 0, 0, 7, -1, 8, 0, 0, 0, 1, 1};
        for (int what = 0; what < due.length; what++) {
            run.aboutIs("0 rose", 0, what, due[what]);
        }
        run.x.rise(5);
        run.aboutIs("5 rose", 5, 8, 23);
        run.refuses("rise(5) again", () -> none(() -> run.x.rise(5)), Check.STATE);
        run.dropAll();
        run.x.tick(8);
        run.aboutIs("0 LEADS again, a round above what it PROMISED", 0, 2, 16);
    }

    private static void promise9Key() {
        Run run = Run.ledBy0(1);
        Check.due("key(31)", run.x.key(31), 0);
        Check.due("key(3)", run.x.key(3), 31);
        for (int key : new int[] {-1, 32, LEAST, MOST}) {
            run.refuses("key(" + key + ")", () -> run.x.key(key), Check.ARGUMENT);
        }
        run.x.ask(0, 0, 1, Run.PUT, 5, 0);
        run.x.ask(0, 0, 2, Run.ADD, 1, 0);
        Check.due("number(0, 3)", run.x.number(0, 3), 6);
        Check.due("the key is in the VALUE", run.x.known(0, 1, 3), 3);
        Check.due("key(0)", run.x.key(0), 3);
        Check.due("key(0)", run.x.key(0), 0);
    }

    private static void promise10AskAnswers() {
        Run run = new Run(7);
        Check.due("0 does not LEAD", run.x.ask(0, 0, 1, Run.PUT, 1, 1), -1);
        run.x.tick(8);
        Check.due("it LEADS without GRANTS", run.x.ask(0, 0, 1, Run.PUT, 1, 1), -1);
        run.settle();
        Check.due("it is taken", run.x.ask(0, 0, 5, Run.PUT, 1, 1), 0);
        Check.due("it is a PROPOSAL", run.x.ask(0, 0, 5, Run.ADD, 2, 2), -3);
        Check.due("a lesser seq, nothing is applied yet", run.x.ask(0, 0, 4, Run.PUT, 1, 1), 0);
        run.settle();
        Check.due("the last seq", run.x.answer(0, 0, 0), 5);
        Check.due("the same seq", run.x.ask(0, 0, 5, Run.PUT, 1, 1), -2);
        Check.due("a lesser seq", run.x.ask(0, 0, 1, Run.PUT, 1, 1), -2);
        Check.due("1 does not LEAD", run.x.ask(1, 0, 5, Run.PUT, 1, 1), -1);
        for (int seq = 6; seq <= 25; seq++) {
            Check.due("ask of seq " + seq, run.x.ask(0, 0, seq, Run.ADD, 1, 0), 0);
            run.aboutIs("PROPOSALS", 0, 11, Math.min(4, seq - 5));
            run.aboutIs("QUEUE", 0, 9, Math.max(0, seq - 9));
        }
        run.aboutIs("QUEUE", 0, 9, 16);
        Check.due("the QUEUE is full", run.x.ask(0, 0, 26, Run.ADD, 1, 0), -4);
        Check.due("it is in the full QUEUE", run.x.ask(0, 0, 25, Run.ADD, 1, 0), -3);
        Check.due("it is the first in the full QUEUE", run.x.ask(0, 0, 10, Run.ADD, 1, 0), -3);
        Check.due("it is applied, the QUEUE is full", run.x.ask(0, 0, 5, Run.ADD, 1, 0), -2);
        Check.due("another client, the same seq", run.x.ask(0, 1, 25, Run.ADD, 1, 0), -4);
        run.settle();
        Check.due("all were applied in order", run.x.answer(2, 0, 0), 25);
        Check.due("each counted once", run.x.number(2, 0), 21);
    }

    private static void promise10AskExceptions() {
        Run run = Run.ledBy0(7);
        run.x.fall(3);
        for (int node : NO_NODES) {
            run.refuses("ask of node " + node, () -> run.x.ask(node, 0, 1, 1, 0, 0), Check.NO_ELEMENT);
            run.refuses("ask of node " + node, () -> run.x.ask(node, 0, 0, 7, 0, 0), Check.NO_ELEMENT);
        }
        for (int client : new int[] {-1, 8, LEAST, MOST}) {
            run.refuses("ask of client " + client, () -> run.x.ask(0, client, 1, 1, 0, 0), Check.NO_ELEMENT);
            run.refuses("ask of client " + client, () -> run.x.ask(3, client, 0, 0, 0, 0), Check.NO_ELEMENT);
        }
        for (int kind : new int[] {-1, 0, 7, LEAST, MOST}) {
            run.refuses("ask of kind " + kind, () -> run.x.ask(0, 0, 1, kind, 0, 0), Check.ARGUMENT);
            run.refuses("ask of kind " + kind, () -> run.x.ask(3, 0, 1, kind, 0, 0), Check.ARGUMENT);
        }
        for (int seq : new int[] {0, -1, LEAST}) {
            run.refuses("ask of seq " + seq, () -> run.x.ask(0, 0, seq, 1, 0, 0), Check.ARGUMENT);
            run.refuses("ask of seq " + seq, () -> run.x.ask(3, 0, seq, 1, 0, 0), Check.ARGUMENT);
        }
        run.refuses("ask of one that fell", () -> run.x.ask(3, 0, 1, 1, 0, 0), Check.STATE);
        Check.due("client 7, the greatest seq", run.x.ask(0, 7, MOST, 6, 0, 0), 0);
    }

    private static void promise11Answer() {
        Run run = Run.ledBy0(7);
        run.x.ask(0, 7, 9, Run.PUT, 3, 0);
        run.x.ask(0, 7, 12, Run.PUT, 4, 0);
        run.settle();
        for (int node = 0; node < 3; node++) {
            Check.due("last seq", run.x.answer(node, 7, 0), 12);
            Check.due("RESULT", run.x.answer(node, 7, 1), 3);
            Check.due("another client's", run.x.answer(node, 6, 0), 0);
        }
        Check.due("3 heard nothing", run.x.answer(3, 7, 0), 0);
        for (int bad : NO_NODES) {
            run.refuses("answer of node " + bad, () -> run.x.answer(bad, 0, 0), Check.NO_ELEMENT);
            run.refuses("answer of node " + bad, () -> run.x.answer(bad, 0, 2), Check.NO_ELEMENT);
        }
        for (int bad : new int[] {-1, 8, LEAST, MOST}) {
            run.refuses("answer of client " + bad, () -> run.x.answer(0, bad, 1), Check.NO_ELEMENT);
            run.refuses("answer of client " + bad, () -> run.x.answer(0, bad, 2), Check.NO_ELEMENT);
        }
        for (int bad : new int[] {-1, 2, LEAST, MOST}) {
            run.refuses("answer, what " + bad, () -> run.x.answer(0, 0, bad), Check.ARGUMENT);
        }
    }

    private static void promise12Number() {
        Run run = Run.ledBy0(7);
        run.x.key(31);
        run.x.ask(0, 0, 1, Run.PUT, LEAST, 0);
        run.settle();
        Check.due("number(2, 31)", run.x.number(2, 31), LEAST);
        Check.due("number(2, 30)", run.x.number(2, 30), Run.NONE);
        Check.due("number(3, 31)", run.x.number(3, 31), Run.NONE);
        for (int bad : NO_NODES) {
            run.refuses("number of node " + bad, () -> run.x.number(bad, 0), Check.NO_ELEMENT);
        }
        for (int bad : new int[] {-1, 32, LEAST, MOST}) {
            run.refuses("number of key " + bad, () -> run.x.number(0, bad), Check.NO_ELEMENT);
        }
    }

    private static void promise13Known() {
        Run run = Run.ledBy0(1);
        run.x.key(9);
        run.x.ask(0, 5, 77, Run.SWAP, -3, 12);
        int[] due = {4, 5, 77, 9, -3, 12};
        for (int what = 0; what < due.length; what++) {
            Check.due("known(0, 1, " + what + ")", run.x.known(0, 1, what), due[what]);
        }
        for (int slot : new int[] {0, 2, -1, -63, 65, LEAST, MOST}) {
            run.refuses("known(0, " + slot + ", 0)", () -> run.x.known(0, slot, 0), Check.NO_ELEMENT);
            run.refuses("known(0, " + slot + ", 6)", () -> run.x.known(0, slot, 6), Check.NO_ELEMENT);
        }
        run.refuses("known(1, 1, 0)", () -> run.x.known(1, 1, 0), Check.NO_ELEMENT);
        for (int bad : NO_NODES) {
            run.refuses("known of node " + bad, () -> run.x.known(bad, 1, 0), Check.NO_ELEMENT);
        }
        for (int bad : new int[] {-1, 6, LEAST, MOST}) {
            run.refuses("known, what " + bad, () -> run.x.known(0, 1, bad), Check.ARGUMENT);
        }
        for (int seq = 1; seq <= 16; seq++) {
            Check.due("SLOT 1 is KNOWN up to A = 16", run.x.known(0, 1, 2), 77);
            run.x.ask(0, 0, seq, Run.ADD, 1, 0);
        }
        run.aboutIs("A - 16", 0, 5, 1);
        run.refuses("SLOT 1 is forgotten", () -> run.x.known(0, 1, 2), Check.NO_ELEMENT);
        Check.due("SLOT 2 is not", run.x.known(0, 2, 2), 1);
        Check.due("SLOT 17", run.x.known(0, 17, 2), 16);
    }

    private static void promise14About() {
        Run run = Run.ledBy0(15);
        run.x.ask(0, 0, 1, Run.MEMBERS, 7, 0);
        run.settle();
        for (int seq = 1; seq <= 6; seq++) {
            run.x.ask(0, 1, seq, Run.ADD, 1, 0);
        }
        run.x.tick(1);
        int[] leader = {1, 1, 8, 8, 1, 0, 15, 0, 2, 2, 15, 4, 4, 2};
        for (int what = 0; what < leader.length; what++) {
            run.aboutIs("the leader", 0, what, leader[what]);
        }
        run.hand(Run.ACCEPT, 1);
        int[] follower = {1, 0, 0, 8, 1, 0, 15, 0, 11, 0, 0, 0, 1, 2};
        for (int what = 0; what < follower.length; what++) {
            run.aboutIs("a follower", 1, what, follower[what]);
        }
        for (int bad : NO_NODES) {
            run.refuses("about of node " + bad, () -> run.x.about(bad, 0), Check.NO_ELEMENT);
            run.refuses("about of node " + bad, () -> run.x.about(bad, 14), Check.NO_ELEMENT);
        }
        for (int bad : new int[] {-1, 14, LEAST, MOST}) {
            run.refuses("about, what " + bad, () -> run.x.about(0, bad), Check.ARGUMENT);
        }
    }

    private static void promise14AboutWhenFallen() {
        Run run = Run.ledBy0(7);
        run.x.ask(0, 0, 1, Run.PUT, 1, 0);
        run.hand(Run.ACCEPT, 1);
        run.x.fall(1);
        int[] due = {0, 0, 0, 8, 0, 0, 7, -1, 0, 0, 0, 0, 1, 1};
        for (int what = 0; what < due.length; what++) {
            run.aboutIs("1 fell", 1, what, due[what]);
        }
    }

    private static void promise15Count() {
        Run run = new Run(127);
        for (int bad : new int[] {-1, 4, LEAST, MOST}) {
            Check.due("count(" + bad + ")", run.x.count(bad), -1);
        }
        run.x.tick(8);
        run.x.copy(0);
        run.x.drop(1);
        run.x.fall(3);
        run.x.deliver(run.find(Run.PREPARE, 3));
        run.x.deliver(run.find(Run.PREPARE, 4));
        Check.due("on their way", run.x.count(0), 5);
        Check.due("sent", run.x.count(1), 7);
        Check.due("lost for want of room", run.x.count(2), 0);
        Check.due("delivered", run.x.count(3), 1);
        run.x.tick(1);
        for (int size = run.x.count(0); size < 298; size++) {
            run.x.copy(0);
        }
        int sent = run.x.count(1);
        run.x.tick(1);
        Check.due("no TIMER is at 0", run.x.count(1), sent);
        run.x.tick(1);
        Check.due("6 HEARTS and PREPARES of 0, 6 PREPARES of 1", run.x.count(1), sent + 12 + 6);
        Check.due("there was room for 2", run.x.count(2), 16);
        Check.due("on their way", run.x.count(0), 300);
    }
}
