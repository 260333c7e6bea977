/** "Terms", what a NODE keeps, APPLYING, LEARNING: each sentence that names a boundary case has a test of its own. */
public final class StateEdgesTest {
    private static final int LEAST = Integer.MIN_VALUE;
    private static final int MOST = Integer.MAX_VALUE;

    private StateEdgesTest() { }

    public static void main(String[] args) {
        whatANodeKeeps();
        majorityPeersAndNetwork();
        applying();
        learning();
        Check.finish();
    }

    private static void whatANodeKeeps() {
        Check.sentence("BALLOT: 8 * round + node", StateEdgesTest::firstBallots);
        Check.sentence("SLOTS from 1 on", StateEdgesTest::firstSlot);
        Check.sentence("CONFIG(t): the last pair whose SLOT is not above t", StateEdgesTest::configOfASlot);
        Check.sentence("the first pair goes: the second one's SLOT is not above A + 1", StateEdgesTest::pairsGo);
        Check.sentence("BASE is 0 first, and A - 16 from 16 on", StateEdgesTest::baseFrom16On);
        Check.sentence("BASE: or where a SNAPSHOT put it (the greater of these)", StateEdgesTest::baseOfASnapshot);
        Check.sentence("SLOTS that are not above BASE are forgotten", StateEdgesTest::knownIsForgotten);
        Check.sentence("and ACCEPTED ones not above A", StateEdgesTest::acceptedIsForgotten);
        Check.sentence("however many SLOTS there were", StateEdgesTest::manySlots);
    }

    private static void majorityPeersAndNetwork() {
        Check.sentence("MAJORITY: more than half of the bits of m", StateEdgesTest::halfIsNoMajority);
        Check.sentence("MAJORITY: bits of m alone", StateEdgesTest::othersAreNoMajority);
        Check.sentence("PEERS: all in CONFIG(A + 1) .. CONFIG(A + 4)", StateEdgesTest::peersOfTheWindow);
        Check.sentence("PEERS: but itself, from 0 on", StateEdgesTest::peersInOrder);
        Check.sentence("with 300 there it is lost", StateEdgesTest::networkOf300);
    }

    private static void applying() {
        Check.sentence("APPLYING SLOT A + 1 while its VALUE is KNOWN", StateEdgesTest::applyingStopsAtAGap);
        Check.sentence("kind 0 nothing", StateEdgesTest::applyingNothing);
        Check.sentence("if seq is above the client's last one", StateEdgesTest::seqAboveTheLastOne);
        Check.sentence("if seq is above the client's last one: MEMBERS, too", StateEdgesTest::membersOfAnOldSeq);
        Check.sentence("PUT the number there before, then it is a", StateEdgesTest::put);
        Check.sentence("TAKE likewise, then none", StateEdgesTest::take);
        Check.sentence("ADD: the number (none: 0) becomes a more, that", StateEdgesTest::add);
        Check.sentence("SWAP: if there is a: b is there, 1, else 0", StateEdgesTest::swap);
        Check.sentence("GET the number", StateEdgesTest::get);
        Check.sentence("MEMBERS: if a & 127 is not 0", StateEdgesTest::membersOfLowSevenBits);
        Check.sentence("MEMBERS: the pair (A + 4, a & 127)", StateEdgesTest::membersFourSlotsOn);
    }

    private static void learning() {
        Check.sentence("LEARNING: if t is above A", StateEdgesTest::learningWhatIsApplied);
        Check.sentence("LEARNING: not above A + 32", StateEdgesTest::learning32Ahead);
        Check.sentence("LEARNING: and not KNOWN", StateEdgesTest::learningTwice);
        Check.sentence("LEARNING: what can be is APPLIED", StateEdgesTest::learningAppliesAll);
    }

    private static void refusesKnown(Run run, int node, int slot) {
        Check.isThrown("known(" + node + ", " + slot + ", 0)", () -> run.x.known(node, slot, 0), Check.NO_ELEMENT);
    }

    // What a NODE keeps

    private static void firstBallots() {
        for (int node = 0; node < 7; node++) {
            Run run = new Run(1 << node);
            run.aboutIs("no BALLOT yet", node, 2, 0);
            run.aboutIs("nothing PROMISED yet", node, 3, 0);
            run.x.tick(8 + 3 * node);
            run.aboutIs("its first BALLOT", node, 2, 8 + node);
            run.aboutIs("its first BALLOT", node, 3, 8 + node);
        }
    }

    private static void firstSlot() {
        Run run = Run.ledBy0(7);
        run.x.ask(0, 0, 1, Run.ADD, 1, 0);
        run.wireIs("the first PROPOSAL", "4:0>1(8,1) 4:0>2(8,1)");
        run.settle();
        run.aboutIs("one SLOT is applied", 1, 4, 1);
        Check.same("SLOT 1 alone", run.knownUpTo(1, 5), "1:1");
    }

    private static void configOfASlot() {
        Run run = Run.ledBy0(7);
        run.x.ask(0, 1, 1, Run.MEMBERS, 31, 0);
        run.chooseWhatIsAsked();
        run.dropAll();
        for (int seq = 1; seq <= 4; seq++) {
            run.x.ask(0, 0, seq, Run.ADD, 1, 0);
        }
        run.wireIs("SLOT 4 has the first members, SLOT 5 the second ones", "4:0>1(8,2) 4:0>2(8,2) 4:0>1(8,3) 4:0>2(8,3)"
            + " 4:0>1(8,4) 4:0>2(8,4) 4:0>1(8,5) 4:0>2(8,5) 4:0>3(8,5) 4:0>4(8,5)");
        int[] members = {7, 7, 7, 31};
        for (int applied = 1; applied <= 4; applied++) {
            run.aboutIs("A = " + applied, 0, 4, applied);
            run.aboutIs("CONFIG(A + 1)", 0, 6, members[applied - 1]);
            run.hand(Run.ACCEPT, 1);
            run.hand(Run.ACCEPTED, 0);
        }
        run.aboutIs("two of five are no MAJORITY of SLOT 5", 0, 4, 4);
    }

    private static void pairsGo() {
        Run run = Run.ledBy0(1);
        int[] pairs = {2, 3, 4, 4};
        for (int seq = 1; seq <= 4; seq++) {
            run.x.ask(0, 0, seq, Run.MEMBERS, 1 + 128 * seq, 0);
            run.aboutIs("A = " + seq, 0, 13, pairs[seq - 1]);
        }
        for (int seq = 5; seq <= 8; seq++) {
            run.x.ask(0, 0, seq, Run.ADD, 1, 0);
            run.aboutIs("A = " + seq, 0, 13, Math.max(1, 8 - seq));
        }
        Run one = Run.ledBy0(1);
        one.x.ask(0, 0, 1, Run.MEMBERS, 1, 0);
        one.chooseAlone(2, 3);
        one.aboutIs("A + 1 = 4, the second pair's SLOT is 5", 0, 13, 2);
        one.chooseAlone(4, 4);
        one.aboutIs("A + 1 = 5", 0, 13, 1);
    }

    private static void baseFrom16On() {
        Run run = Run.ledBy0(1);
        for (int seq = 1; seq <= 40; seq++) {
            run.x.ask(0, 0, seq, Run.ADD, 1, 0);
            run.aboutIs("A = " + seq, 0, 5, seq <= 16 ? 0 : seq - 16);
        }
    }

    /** 2 has taken a SNAPSHOT of 17 SLOTS. */
    private static Run snapshotOf17() {
        Run run = Run.ledBy0(7);
        run.chooseWith1(1, 17);
        run.x.tick(3);
        run.hand(Run.HEART, 2);
        run.hand(Run.WANT, 0);
        run.hand(Run.SNAPSHOT, 2);
        run.dropAll();
        run.aboutIs("A", 2, 4, 17);
        return run;
    }

    private static void baseOfASnapshot() {
        Run run = snapshotOf17();
        run.aboutIs("where it was put", 2, 5, 17);
        for (int seq = 18; seq <= 35; seq++) {
            run.x.ask(0, 0, seq, Run.ADD, 1, 0);
            run.settle();
            run.aboutIs("A", 2, 4, seq);
            run.aboutIs("A = " + seq, 2, 5, Math.max(17, seq - 16));
        }
    }

    private static void knownIsForgotten() {
        Run run = Run.ledBy0(1);
        run.chooseAlone(1, 18);
        Check.same("SLOTS above 2", run.knownUpTo(0, 40),
            "3:3 4:4 5:5 6:6 7:7 8:8 9:9 10:10 11:11 12:12 13:13 14:14 15:15 16:16 17:17 18:18");

        Run atOnce = slot1Missing(20);
        Check.due("SLOT 2 is KNOWN", atOnce.x.known(2, 2, 2), 2);
        atOnce.x.deliver(0);
        atOnce.aboutIs("20 at once", 2, 4, 20);
        atOnce.aboutIs("20 at once", 2, 5, 4);
        Check.same("SLOTS above 4", atOnce.knownUpTo(2, 40),
            "5:5 6:6 7:7 8:8 9:9 10:10 11:11 12:12 13:13 14:14 15:15 16:16 17:17 18:18 19:19 20:20");
    }

    /** 0 and 1 have chosen SLOTS up to that one, 2 KNOWS all but SLOT 1, of which CHOSEN is on its way to it. */
    private static Run slot1Missing(int last) {
        Run run = Run.ledBy0(7);
        for (int seq = 1; seq <= last; seq++) {
            run.x.ask(0, 0, seq, Run.ADD, seq, 0);
            run.chooseWhatIsAsked();
            run.x.drop(run.find(Run.ACCEPT, 2));
            if (seq > 1) {
                run.x.deliver(1);
            }
        }
        run.aboutIs("SLOT 1 is missing", 2, 4, 0);
        run.wireIs("SLOT 1 is missing", "8:0>2(0,1)");
        return run;
    }

    private static void acceptedIsForgotten() {
        Run run = Run.ledBy0(7);
        for (int seq = 1; seq <= 3; seq++) {
            run.x.ask(0, 0, seq, Run.ADD, 1, 0);
            run.hand(Run.ACCEPT, 1);
            run.hand(Run.ACCEPT, 2);
        }
        run.aboutIs("three", 2, 12, 3);
        for (int i = 0; i < 3; i++) {
            run.hand(Run.ACCEPTED, 0);
        }
        run.aboutIs("0 has applied SLOTS 1 and 2", 0, 4, 2);
        run.aboutIs("one is left", 0, 12, 1);
        run.hand(Run.CHOSEN, 2);
        run.aboutIs("SLOT 1 is applied", 2, 4, 1);
        run.aboutIs("SLOTS 2 and 3 are left", 2, 12, 2);
        run.hand(Run.CHOSEN, 2);
        run.aboutIs("SLOT 3 is left", 2, 12, 1);
    }

    private static void manySlots() {
        Run run = Run.ledBy0(3);
        for (int seq = 1; seq <= 82; seq++) {
            run.x.ask(0, 0, seq, Run.ADD, 1, 0);
            run.hand(Run.ACCEPT, 1);
            run.aboutIs("one is ACCEPTED", 0, 12, 1);
            run.aboutIs("one is ACCEPTED", 1, 12, 1);
            run.settle();
            for (int node = 0; node < 2; node++) {
                run.aboutIs("A", node, 4, seq);
                run.aboutIs("nothing is ACCEPTED", node, 12, 0);
                Check.due("the last is KNOWN", run.x.known(node, seq, 2), seq);
                if (seq > 16) {
                    Check.due("the first that is KNOWN", run.x.known(node, seq - 15, 2), seq - 15);
                }
            }
            if (seq > 16) {
                refusesKnown(run, 1, seq - 16);
            }
        }
        Check.due("all count", run.x.number(1, 0), 82);
    }

    // MAJORITY, PEERS, the network

    private static void halfIsNoMajority() {
        int[][] members = {{3, 2}, {7, 2}, {15, 3}, {31, 3}, {63, 4}, {127, 4}};
        for (int[] mask : members) {
            Run run = new Run(mask[0]);
            run.x.tick(8);
            for (int granted = 1; granted < mask[1]; granted++) {
                Check.due(granted + " of " + mask[0], run.x.ask(0, 0, 1, Run.ADD, 1, 0), -1);
                run.hand(Run.PREPARE, granted);
                run.hand(Run.PROMISE, 0);
            }
            Check.due(mask[1] + " of " + mask[0], run.x.ask(0, 0, 1, Run.ADD, 1, 0), 0);
            for (int acks = 1; acks < mask[1]; acks++) {
                run.aboutIs(acks + " ACKS of " + mask[0], 0, 4, 0);
                run.hand(Run.ACCEPT, acks);
                run.hand(Run.ACCEPTED, 0);
            }
            run.aboutIs(mask[1] + " ACKS of " + mask[0], 0, 4, 1);
        }
    }

    private static void othersAreNoMajority() {
        Run run = Run.ledBy0(7);
        run.x.ask(0, 1, 1, Run.MEMBERS, 25, 0);
        run.chooseWhatIsAsked();
        run.chooseWith1(1, 3);
        run.aboutIs("0, 3 and 4 are the members", 0, 6, 25);
        run.aboutIs("0, 1 and 2 are GRANTS", 0, 10, 7);
        Check.due("one of three", run.x.ask(0, 0, 4, Run.ADD, 1, 0), -1);
        run.x.tick(3);
        run.hand(Run.PREPARE, 4);
        Check.due("WANT comes first", run.x.message(run.find(Run.PROMISE, 0), 4), 0);
        run.hand(Run.PROMISE, 0);
        run.aboutIs("4 is in GRANTS", 0, 10, 23);
        Check.due("two of three", run.x.ask(0, 0, 4, Run.ADD, 1, 0), 0);
    }

    private static void peersOfTheWindow() {
        Run run = Run.ledBy0(1);
        run.x.tick(3);
        run.wireIs("it is alone", "");
        run.x.ask(0, 0, 1, Run.MEMBERS, 3, 0);
        run.x.ask(0, 0, 2, Run.MEMBERS, 1, 0);
        run.dropAll();
        run.x.tick(3);
        run.wireIs("1 is a member of SLOT 5 = A + 3", "6:0>1(8,2) 1:0>1(8,0)");
        run.chooseAlone(3, 4);
        run.hand(Run.PREPARE, 1);
        run.hand(Run.PROMISE, 0);
        run.dropAll();
        run.x.tick(3);
        run.wireIs("1 is a member of SLOT 5 = A + 1", "6:0>1(8,4)");
        run.dropAll();
        run.x.ask(0, 0, 5, Run.ADD, 1, 0);
        run.hand(Run.ACCEPT, 1);
        run.hand(Run.ACCEPTED, 0);
        run.wireIs("it is told of SLOT 5", "8:0>1(0,5)");
        run.dropAll();
        run.x.tick(3);
        run.wireIs("1 is a member of SLOT 5 = A alone", "");

        Run last = Run.ledBy0(1);
        last.x.ask(0, 0, 1, Run.MEMBERS, 65, 0);
        last.dropAll();
        last.x.tick(3);
        last.wireIs("6 is a member of SLOT 5 = A + 4", "6:0>6(8,1) 1:0>6(8,0)");
    }

    private static void peersInOrder() {
        Run run = new Run(127);
        for (int node = 0; node < 3; node++) {
            run.x.fall(node);
        }
        run.x.tick(17);
        run.wireIs("all but itself", "1:3>0(11,0) 1:3>1(11,0) 1:3>2(11,0) 1:3>4(11,0) 1:3>5(11,0) 1:3>6(11,0)");
        Run last = new Run(65);
        last.x.fall(0);
        last.x.tick(26);
        last.wireIs("all but itself", "1:6>0(14,0)");
    }

    private static void networkOf300() {
        for (int there = 297; there <= 300; there++) {
            Run run = new Run(7);
            run.x.tick(8);
            run.fillUpTo(there);
            run.x.tick(2);
            run.x.fall(1);
            Check.due(there + " and four", run.x.tick(1), 300);
            Check.due("sent", run.x.count(1), 6);
            Check.due("lost", run.x.count(2), there - 296);
            StringBuilder kinds = new StringBuilder();
            for (int k = there; k < 300; k++) {
                kinds.append(run.x.message(k, 0)).append('>').append(run.x.message(k, 2)).append(' ');
            }
            Check.same("the first ones find room", kinds.toString(), "6>1 1>1 6>2 ".substring(0, 4 * (300 - there)));
        }
    }

    // APPLYING

    private static void applyingStopsAtAGap() {
        Run run = Run.ledBy0(7);
        for (int seq = 1; seq <= 4; seq++) {
            run.x.ask(0, 0, seq, Run.ADD, 1, 0);
        }
        run.x.deliver(6);
        run.hand(Run.ACCEPTED, 0);
        run.x.deliver(2);
        run.hand(Run.ACCEPTED, 0);
        run.aboutIs("SLOTS 2 and 4 wait", 0, 4, 0);
        Check.same("SLOTS 2 and 4 wait", run.knownUpTo(0, 5), "2:2 4:4");
        run.x.deliver(0);
        run.hand(Run.ACCEPTED, 0);
        run.aboutIs("SLOT 3 is missing", 0, 4, 2);
        Check.due("SLOT 4 does not count", run.x.number(0, 0), 2);
        run.hand(Run.ACCEPT, 2);
        run.hand(Run.ACCEPT, 2);
        run.hand(Run.ACCEPT, 2);
        for (int i = 0; i < 3; i++) {
            run.hand(Run.ACCEPTED, 0);
        }
        run.aboutIs("SLOTS 3 and 4", 0, 4, 4);
        Check.due("all count", run.x.number(0, 0), 4);
    }

    private static void applyingNothing() {
        Run run = Run.nothingInThreeSlots();
        run.settle();
        for (int slot = 1; slot <= 3; slot++) {
            for (int what = 0; what < 6; what++) {
                Check.due("NOTHING is all 0", run.x.known(1, slot, what), 0);
            }
        }
        for (int node = 1; node < 3; node++) {
            run.aboutIs("it is applied", node, 4, 4);
            Check.due("seq 4 counts", run.x.answer(node, 0, 0), 4);
            Check.due("and that alone", run.x.number(node, 0), 4);
            Check.due("none at the other keys", run.x.number(node, 1), Run.NONE);
        }
    }

    private static void seqAboveTheLastOne() {
        Run run = Run.ledBy0(7);
        int[] seqs = {5, 4, 6, 9};
        for (int seq : seqs) {
            Check.due("seq " + seq, run.x.ask(0, 3, seq, Run.ADD, seq, 0), 0);
        }
        int[] numbers = {5, 5, 11, 20};
        int[] lasts = {5, 5, 6, 9};
        for (int slot = 1; slot <= 4; slot++) {
            run.hand(Run.ACCEPT, 1);
            run.hand(Run.ACCEPTED, 0);
            run.aboutIs("each is applied", 0, 4, slot);
            Check.due("seq 4 comes too late", run.x.number(0, 0), numbers[slot - 1]);
            Check.due("the last seq", run.x.answer(0, 3, 0), lasts[slot - 1]);
            Check.due("its RESULT", run.x.answer(0, 3, 1), numbers[slot - 1]);
        }

        Run twice = Run.ledBy0(7);
        twice.x.ask(0, 0, 1, Run.ADD, 1, 0);
        twice.x.ask(0, 0, 2, Run.ADD, 1, 0);
        twice.x.deliver(2);
        twice.hand(Run.ACCEPTED, 0);
        Check.due("seq 2 is KNOWN, but not applied", twice.x.ask(0, 0, 2, Run.ADD, 1, 0), 0);
        twice.settle();
        twice.aboutIs("SLOTS 2 and 3 are for seq 2", 0, 4, 3);
        Check.due("SLOT 3", twice.x.known(0, 3, 2), 2);
        Check.due("the same seq counts once", twice.x.number(0, 0), 2);
    }

    private static void membersOfAnOldSeq() {
        Run run = Run.ledBy0(7);
        run.x.ask(0, 0, 2, Run.ADD, 1, 0);
        run.x.ask(0, 0, 1, Run.MEMBERS, 127, 0);
        run.settle();
        run.aboutIs("both are applied", 1, 4, 2);
        run.aboutIs("no pair comes", 1, 13, 1);
        run.aboutIs("no pair comes", 0, 13, 1);
        Check.due("RESULT stays", run.x.answer(1, 0, 1), 1);
    }

    private static void result(Run run, int kind, int a, int b, long result, long number) {
        int seq = (int) run.x.answer(0, 0, 0) + 1;
        Check.due("ask", run.x.ask(0, 0, seq, kind, a, b), 0);
        Check.due("RESULT of kind " + kind + " with " + a + ", " + b, run.x.answer(0, 0, 1), result);
        Check.due("number after kind " + kind + " with " + a + ", " + b, run.x.number(0, 0), number);
    }

    private static void put() {
        Run run = Run.ledBy0(1);
        result(run, Run.PUT, 0, 9, Run.NONE, 0);
        result(run, Run.PUT, LEAST, 9, 0, LEAST);
        result(run, Run.PUT, MOST, 9, LEAST, MOST);
        result(run, Run.PUT, -1, 9, MOST, -1);
        result(run, Run.PUT, -1, 9, -1, -1);
    }

    private static void take() {
        Run run = Run.ledBy0(1);
        result(run, Run.TAKE, 0, 9, Run.NONE, Run.NONE);
        result(run, Run.PUT, 0, 9, Run.NONE, 0);
        result(run, Run.TAKE, 5, 9, 0, Run.NONE);
        result(run, Run.TAKE, 5, 9, Run.NONE, Run.NONE);
        result(run, Run.PUT, 7, 9, Run.NONE, 7);
    }

    private static void add() {
        Run run = Run.ledBy0(1);
        result(run, Run.ADD, 0, 9, 0, 0);
        result(run, Run.TAKE, 0, 0, 0, Run.NONE);
        result(run, Run.ADD, -3, 9, -3, -3);
        result(run, Run.ADD, 3, 9, 0, 0);
        result(run, Run.ADD, MOST, 9, MOST, MOST);
        result(run, Run.ADD, 1, 9, LEAST, LEAST);
        result(run, Run.ADD, -1, 9, MOST, MOST);
        result(run, Run.ADD, MOST, 9, -2, -2);
        result(run, Run.ADD, LEAST, 9, MOST - 1, MOST - 1);
        result(run, Run.TAKE, 0, 0, MOST - 1, Run.NONE);
        result(run, Run.ADD, LEAST, 9, LEAST, LEAST);
        result(run, Run.ADD, LEAST, 9, 0, 0);
    }

    private static void swap() {
        Run run = Run.ledBy0(1);
        result(run, Run.SWAP, 0, 5, 0, Run.NONE);
        result(run, Run.PUT, 0, 0, Run.NONE, 0);
        result(run, Run.SWAP, 1, 5, 0, 0);
        result(run, Run.SWAP, 0, 5, 1, 5);
        result(run, Run.SWAP, 5, 5, 1, 5);
        result(run, Run.SWAP, -5, 6, 0, 5);
        result(run, Run.SWAP, 5, LEAST, 1, LEAST);
        result(run, Run.SWAP, MOST, 1, 0, LEAST);
        result(run, Run.SWAP, LEAST, MOST, 1, MOST);
        result(run, Run.SWAP, MOST, -1, 1, -1);
        result(run, Run.SWAP, -1, 0, 1, 0);
    }

    private static void get() {
        Run run = Run.ledBy0(1);
        result(run, Run.GET, 5, 6, Run.NONE, Run.NONE);
        result(run, Run.PUT, LEAST, 0, Run.NONE, LEAST);
        result(run, Run.GET, 5, 6, LEAST, LEAST);
        result(run, Run.GET, 5, 6, LEAST, LEAST);
    }

    private static void membersOfLowSevenBits() {
        for (int mask : new int[] {0, 128, -128, 256, LEAST}) {
            Run run = Run.ledBy0(1);
            result(run, Run.MEMBERS, mask, 9, 0, Run.NONE);
            run.aboutIs("MEMBERS " + mask + ": no pair", 0, 13, 1);
            run.wireIs("MEMBERS " + mask + ": no PEERS", "");
            Check.due("it counts", run.x.answer(0, 0, 0), 1);
        }
        int[][] masks = {{1, 1}, {127, 127}, {129, 1}, {255, 127}, {-1, 127}, {LEAST + 3, 3}, {MOST, 127}, {64, 64}};
        for (int[] mask : masks) {
            Run run = Run.ledBy0(1);
            result(run, Run.MEMBERS, mask[0], 9, mask[1], Run.NONE);
            run.aboutIs("MEMBERS " + mask[0], 0, 13, 2);
            run.chooseAlone(2, 4);
            run.aboutIs("MEMBERS " + mask[0], 0, 6, mask[1]);
        }
    }

    private static void membersFourSlotsOn() {
        Run run = Run.ledBy0(1);
        run.chooseAlone(1, 2);
        run.x.ask(0, 0, 3, Run.MEMBERS, 5, 0);
        for (int seq = 4; seq <= 6; seq++) {
            run.aboutIs("SLOT " + seq, 0, 6, 1);
            Check.due("SLOT " + seq + " has one member", run.x.ask(0, 0, seq, Run.ADD, 1, 0), 0);
            run.aboutIs("and is chosen at once", 0, 4, seq);
        }
        run.aboutIs("SLOT 7", 0, 6, 5);
        Check.due("SLOT 7 has two", run.x.ask(0, 0, 7, Run.ADD, 1, 0), -1);
    }

    // LEARNING

    private static void learningWhatIsApplied() {
        Run run = Run.ledBy0(7);
        run.x.ask(0, 0, 1, Run.ADD, 1, 0);
        run.hand(Run.ACCEPT, 1);
        run.hand(Run.ACCEPTED, 0);
        run.x.copy(run.find(Run.CHOSEN, 2));
        run.hand(Run.CHOSEN, 2);
        run.aboutIs("SLOT 1 is applied", 2, 4, 1);
        run.hand(Run.CHOSEN, 2);
        run.aboutIs("t = A", 2, 4, 1);
        Check.due("it counts once", run.x.number(2, 0), 1);

        Run behind = Run.ledBy0(7);
        behind.x.ask(0, 1, 1, Run.ADD, 5, 0);
        behind.hand(Run.ACCEPT, 1);
        behind.hand(Run.ACCEPTED, 0);
        behind.x.drop(behind.find(Run.ACCEPT, 2));
        behind.hand(Run.CHOSEN, 1);
        behind.x.copy(0);
        behind.hand(Run.CHOSEN, 2);
        for (int seq = 1; seq <= 17; seq++) {
            behind.x.ask(0, 0, seq, Run.ADD, 1, 0);
            behind.hand(Run.ACCEPT, 1);
            behind.hand(Run.ACCEPTED, 0);
            behind.hand(Run.CHOSEN, 1);
            behind.x.drop(behind.find(Run.ACCEPT, 2));
            behind.x.deliver(behind.x.count(0) - 1);
        }
        behind.aboutIs("SLOT 1 is forgotten", 2, 5, 2);
        behind.wireIs("CHOSEN of SLOT 1 comes late", "8:0>2(0,1)");
        behind.x.deliver(0);
        refusesKnown(behind, 2, 1);
        behind.aboutIs("A", 2, 4, 18);
        Check.due("it counts once", behind.x.number(2, 0), 22);
    }

    /** 0 has chosen SLOTS 1 .. 34 with 1; CHOSEN of SLOTS 1, 32, 33 and 34 to 2 are on their way. */
    private static Run chosenOf32And33() {
        Run run = Run.ledBy0(7);
        for (int seq = 1; seq <= 34; seq++) {
            run.x.ask(0, 0, seq, Run.ADD, 1, 0);
            run.chooseWhatIsAsked();
            run.x.drop(run.find(Run.ACCEPT, 2));
            if (seq > 1 && seq < 32) {
                run.x.drop(run.x.count(0) - 1);
            }
        }
        run.wireIs("CHOSEN to 2", "8:0>2(0,1) 8:0>2(0,32) 8:0>2(0,33) 8:0>2(0,34)");
        return run;
    }

    private static void learning32Ahead() {
        Run run = chosenOf32And33();
        run.x.copy(2);
        run.x.copy(3);
        run.x.deliver(3);
        run.x.deliver(2);
        run.x.deliver(1);
        Check.same("A = 0", run.knownUpTo(2, 40), "32:32");
        run.x.deliver(0);
        run.aboutIs("A", 2, 4, 1);
        run.x.deliver(1);
        run.x.deliver(0);
        Check.same("A = 1", run.knownUpTo(2, 40), "1:1 32:32 33:33");
    }

    private static void learningTwice() {
        Run run = chosenOf32And33();
        run.x.copy(1);
        run.x.deliver(1);
        String before = run.sight();
        run.x.deliver(3);
        Check.due("it stays KNOWN", run.x.known(2, 32, 2), 32);
        run.aboutIs("nothing is applied", 2, 4, 0);
        Check.due("one less is on its way", run.sight().length(), before.length() - " 8:0>2(0,32)".length());
    }

    private static void learningAppliesAll() {
        Run run = slot1Missing(32);
        run.x.deliver(0);
        run.aboutIs("all that can be", 2, 4, 32);
        run.aboutIs("BASE", 2, 5, 16);
        Check.due("all that can be", run.x.number(2, 0), 33 * 16);
    }
}
