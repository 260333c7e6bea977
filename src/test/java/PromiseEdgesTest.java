/** Promises 1 to 15: each sentence that names a boundary case has a test of its own here. */
public final class PromiseEdgesTest {
    private static final int LEAST = Integer.MIN_VALUE;
    private static final int MOST = Integer.MAX_VALUE;
    private static final int[] NO_NODES = {-1, 7, 8, LEAST, MOST};
    private static final int[] NO_CLIENTS = {-1, 8, LEAST, MOST};

    private PromiseEdgesTest() { }

    public static void main(String[] args) {
        newObject();
        tick();
        deliverAndDrop();
        copyAndMessage();
        fallAndRise();
        keyAndAsk();
        askRefuses();
        answerAndNumber();
        knownAboutAndCount();
        Check.finish();
    }

    private static void newObject() {
        Check.sentence("1: the mask, 1 .. 127", PromiseEdgesTest::eachMask);
        Check.sentence("1: its low 7 bits", PromiseEdgesTest::lowSevenBits);
        Check.sentence("1: 0 counts as 7", PromiseEdgesTest::zeroCountsAsSeven);
        Check.sentence("1: all seven are LIVE", PromiseEdgesTest::allSevenAreLive);
        Check.sentence("1: TIMERS 8 + 3 * their number", PromiseEdgesTest::firstTimers);
        Check.sentence("1: a new object, whatever others have done", PromiseEdgesTest::objectsOfTheirOwn);
    }

    private static void tick() {
        Check.sentence("2: n times, 1 ..", PromiseEdgesTest::tickOnce);
        Check.sentence("2: n times, .. 50", PromiseEdgesTest::tickFiftyTimes);
        Check.sentence("2: TICK, n times", PromiseEdgesTest::tickAtOnceAndOneByOne);
        Check.sentence("2: how many MESSAGES are on their way", PromiseEdgesTest::tickAnswersAll);
        Check.sentence("2: IllegalArgumentException: another n", PromiseEdgesTest::anotherN);
    }

    private static void deliverAndDrop() {
        Check.sentence("3: MESSAGE k", PromiseEdgesTest::deliverFirstAndLast);
        Check.sentence("3: is taken from the row and delivered", PromiseEdgesTest::takenBeforeItIsDelivered);
        Check.sentence("3: lost, if that is not LIVE", PromiseEdgesTest::deliverToOneThatFell);
        Check.sentence("3: NoSuchElementException: there is none", PromiseEdgesTest::noneToDeliver);
        Check.sentence("4: MESSAGE k is lost: how many are left", PromiseEdgesTest::dropFirstAndLast);
        Check.sentence("4: NoSuchElementException: there is none", PromiseEdgesTest::noneToDrop);
    }

    private static void copyAndMessage() {
        Check.sentence("5: MESSAGE k comes once more at the end", PromiseEdgesTest::copyFirstAndLast);
        Check.sentence("5: once more, with all that is in it", PromiseEdgesTest::copyHasAllThatIsInIt);
        Check.sentence("5: NoSuchElementException: there is none", PromiseEdgesTest::noneToCopy);
        Check.sentence("5: IllegalStateException: 300 are there", PromiseEdgesTest::copyInto300);
        Check.sentence("5: of two exceptions the first", PromiseEdgesTest::noneToCopyOf300);
        Check.sentence("6: its BALLOT (.. 0), its SLOT or A (0), (.. else 0)", PromiseEdgesTest::zerosOfMessages);
        Check.sentence("6: how many ACCEPTED in it", PromiseEdgesTest::acceptedInAPromise);
        Check.sentence("6: NoSuchElementException: there is none", PromiseEdgesTest::noMessage);
        Check.sentence("6: IllegalArgumentException: another what", PromiseEdgesTest::noSuchWhatOfAMessage);
    }

    private static void fallAndRise() {
        Check.sentence("7: what it has only while it is LIVE is gone", PromiseEdgesTest::fallTakesWhatIsLive);
        Check.sentence("7: what it keeps for good stays", PromiseEdgesTest::fallLeavesTheRest);
        Check.sentence("7: NoSuchElementException: no such NODE", PromiseEdgesTest::noNodeToFall);
        Check.sentence("7: IllegalStateException: it is not LIVE", PromiseEdgesTest::fallTwice);
        Check.sentence("8: LIVE again, TIMER 8 + 3 * its number", PromiseEdgesTest::riseOfEach);
        Check.sentence("8: LIVE again, without what is gone", PromiseEdgesTest::riseBringsNothingBack);
        Check.sentence("8: NoSuchElementException: no such NODE", PromiseEdgesTest::noNodeToRise);
        Check.sentence("8: IllegalStateException: it is LIVE", PromiseEdgesTest::riseTwice);
    }

    private static void keyAndAsk() {
        Check.sentence("9: 0 .. 31: what it was (0 at first)", PromiseEdgesTest::leastAndGreatestKey);
        Check.sentence("9: the key of the next ask", PromiseEdgesTest::keyAtTheTimeOfTheAsk);
        Check.sentence("9: IllegalArgumentException: another key", PromiseEdgesTest::anotherKey);
        Check.sentence("10: kind 1 .. 6", PromiseEdgesTest::leastAndGreatestKind);
        Check.sentence("10: seq (1 and more), client 0 .. 7, any a and b", PromiseEdgesTest::leastAndGreatestValue);
        Check.sentence("10: NoSuchElementException: no such NODE or client", PromiseEdgesTest::askOfNone);
        Check.sentence("10: IllegalArgumentException: another kind", PromiseEdgesTest::askOfAnotherKind);
        Check.sentence("10: or seq is below 1", PromiseEdgesTest::askOfSeqBelow1);
        Check.sentence("10: IllegalStateException: it is not LIVE", PromiseEdgesTest::askOfOneThatFell);
    }

    private static void askRefuses() {
        Check.sentence("10: -1: the NODE does not LEAD", PromiseEdgesTest::askOfOneThatDoesNotLead);
        Check.sentence("10: -1: no MAJORITY of CONFIG(A + 1)", PromiseEdgesTest::askWithoutMajority);
        Check.sentence("10: -1: of CONFIG(A + 1) alone", PromiseEdgesTest::askWithMajorityOfTheNextAlone);
        Check.sentence("10: -2: the client's last seq there is not below it", PromiseEdgesTest::askForAnOldSeq);
        Check.sentence("10: -3: it is in the QUEUE", PromiseEdgesTest::askForOneInTheQueue);
        Check.sentence("10: -3: or among PROPOSALS", PromiseEdgesTest::askForAProposal);
        Check.sentence("10: -3: (client and seq)", PromiseEdgesTest::askForClientAndSeq);
        Check.sentence("10: -4: the QUEUE is full", PromiseEdgesTest::askWithAFullQueue);
        Check.sentence("10: the first that is so: -1", PromiseEdgesTest::minus1First);
        Check.sentence("10: the first that is so: -2", PromiseEdgesTest::minus2BeforeTheOthers);
        Check.sentence("10: the first that is so: -3", PromiseEdgesTest::minus3Before4);
        Check.sentence("10: 0: it is in the QUEUE, then WORK", PromiseEdgesTest::takenRequests);
    }

    private static void answerAndNumber() {
        Check.sentence("11: last seq (what 0) or RESULT (1)", PromiseEdgesTest::answersOfFirstAndLastClient);
        Check.sentence("11: NoSuchElementException: no such NODE or client", PromiseEdgesTest::answerOfNone);
        Check.sentence("11: IllegalArgumentException: another what", PromiseEdgesTest::anotherWhatOfAnAnswer);
        Check.sentence("12: the number at a key", PromiseEdgesTest::numbersAtFirstAndLastKey);
        Check.sentence("12: 2^40: none", PromiseEdgesTest::noneIsNoNumber);
        Check.sentence("12: NoSuchElementException: no such NODE or key", PromiseEdgesTest::numberOfNone);
    }

    private static void knownAboutAndCount() {
        Check.sentence("13: of a KNOWN VALUE: what 0 .. 5", PromiseEdgesTest::eachWhatOfAKnown);
        Check.sentence("13: NoSuchElementException: it is not KNOWN there", PromiseEdgesTest::knownOfNone);
        Check.sentence("13: not KNOWN there any more, or not yet applied", PromiseEdgesTest::knownBehindAndAhead);
        Check.sentence("13: IllegalArgumentException: another what", PromiseEdgesTest::anotherWhatOfAKnown);
        Check.sentence("14: 9 to 11 are 0 if it does not LEAD", PromiseEdgesTest::aboutOneThatSteppedDown);
        Check.sentence("14: what it has only while LIVE is 0 else, LEADER -1", PromiseEdgesTest::aboutOneThatFell);
        Check.sentence("14: NoSuchElementException: no such NODE", PromiseEdgesTest::aboutNone);
        Check.sentence("14: IllegalArgumentException: another what", PromiseEdgesTest::anotherWhatOfANode);
        Check.sentence("15: 0 MESSAGES on their way", PromiseEdgesTest::countOnTheirWay);
        Check.sentence("15: 1 sent in all (without those that copy made)", PromiseEdgesTest::countSent);
        Check.sentence("15: 2 of these lost for want of room", PromiseEdgesTest::countLost);
        Check.sentence("15: 3 delivered (to a NODE that was LIVE)", PromiseEdgesTest::countDelivered);
        Check.sentence("15: else -1", PromiseEdgesTest::countElse);
    }

    private static long none(Runnable call) {
        call.run();
        return 0;
    }

    // Promise 1

    private static void eachMask() {
        for (int mask = 1; mask <= 127; mask++) {
            Run run = new Run(mask);
            for (int node = 0; node < 7; node++) {
                run.aboutIs("new QuorumStore(" + mask + ")", node, 6, mask);
            }
        }
    }

    private static void lowSevenBits() {
        int[][] masks = {{129, 1}, {192, 64}, {255, 127}, {-1, 127}, {-127, 1}, {-64, 64}, {MOST, 127}, {LEAST + 5, 5}};
        for (int[] mask : masks) {
            new Run(mask[0]).aboutIs("new QuorumStore(" + mask[0] + ")", 6, 6, mask[1]);
        }
    }

    private static void zeroCountsAsSeven() {
        for (int mask : new int[] {0, 128, 256, -128, LEAST}) {
            Run run = new Run(mask);
            run.aboutIs("new QuorumStore(" + mask + ")", 0, 6, 7);
            run.aboutIs("new QuorumStore(" + mask + ")", 6, 6, 7);
            run.x.tick(8);
            run.wireIs("0 begins to LEAD", "1:0>1(8,0) 1:0>2(8,0)");
        }
    }

    private static void allSevenAreLive() {
        Run run = new Run(1);
        for (int node = 0; node < 7; node++) {
            int n = node;
            run.aboutIs("a member or not", node, 0, 1);
            run.refuses("rise(" + node + ")", () -> none(() -> run.x.rise(n)), Check.STATE);
        }
    }

    private static void firstTimers() {
        for (int node = 0; node < 7; node++) {
            Run run = new Run(1 << node);
            run.aboutIs("a new object", node, 8, 8 + 3 * node);
            run.x.tick(7 + 3 * node);
            run.aboutIs("a TICK before", node, 8, 1);
            run.aboutIs("a TICK before", node, 1, 0);
            run.x.tick(1);
            run.aboutIs("at 0", node, 1, 1);
        }
    }

    private static void objectsOfTheirOwn() {
        String fresh = new Run(7).sight();
        Run busy = Run.ledBy0(7);
        Run idle = new Run(7);
        busy.x.key(9);
        busy.x.ask(0, 0, 1, Run.PUT, 5, 0);
        busy.x.fall(6);
        Check.same("one that does nothing stays as it was", idle.sight().equals(fresh) ? "yes" : "no", "yes");
        Check.same("a later one is new", new Run(7).sight().equals(fresh) ? "yes" : "no", "yes");
        Check.due("its key is its own", idle.x.key(1), 0);
    }

    // Promise 2

    private static void tickOnce() {
        Run run = new Run(127);
        Check.due("tick(1)", run.x.tick(1), 0);
        for (int node = 0; node < 7; node++) {
            run.aboutIs("after one TICK", node, 8, 7 + 3 * node);
        }
    }

    private static void tickFiftyTimes() {
        Run run = new Run(64);
        Check.due("tick(50): nobody to send to", run.x.tick(50), 0);
        int[] timers = {6, 5, 6, 1, 10, 19, 3};
        for (int node = 0; node < 7; node++) {
            run.aboutIs("after 50 TICKS", node, 8, timers[node]);
        }
    }

    private static void tickAtOnceAndOneByOne() {
        Run atOnce = new Run(7);
        atOnce.x.tick(14);
        atOnce.wireIs("TICKS 8, 11 and 14, in each from 0 on", "1:0>1(8,0) 1:0>2(8,0)"
            + " 6:0>1(8,0) 1:0>1(8,0) 6:0>2(8,0) 1:0>2(8,0) 1:1>0(9,0) 1:1>2(9,0)"
            + " 6:0>1(8,0) 1:0>1(8,0) 6:0>2(8,0) 1:0>2(8,0) 6:1>0(9,0) 1:1>0(9,0) 6:1>2(9,0) 1:1>2(9,0)"
            + " 1:2>0(10,0) 1:2>1(10,0)");
        Run oneByOne = new Run(7);
        for (int i = 0; i < 14; i++) {
            oneByOne.x.tick(1);
        }
        Check.same("the same", oneByOne.sight().equals(atOnce.sight()) ? "yes" : "no", "yes");
    }

    private static void tickAnswersAll() {
        Run run = new Run(3);
        Check.due("none", run.x.tick(7), 0);
        Check.due("one PREPARE", run.x.tick(1), 1);
        Check.due("that one still", run.x.tick(1), 1);
        run.x.copy(0);
        Check.due("and its copy", run.x.tick(1), 2);
        Run full = new Run(127);
        Check.due("no more than 300", full.x.tick(50), 300);
        Check.due("no more than 300", full.x.tick(1), 300);
        Run fallen = new Run(127);
        for (int node = 0; node < 7; node++) {
            fallen.x.fall(node);
        }
        Check.due("nobody is LIVE", fallen.x.tick(50), 0);
    }

    private static void anotherN() {
        Run run = Run.ledBy0(7);
        for (int n : new int[] {0, -1, 51, 100, LEAST, MOST}) {
            run.refuses("tick(" + n + ")", () -> run.x.tick(n), Check.ARGUMENT);
        }
    }

    // Promises 3 and 4

    private static void deliverFirstAndLast() {
        Run run = new Run(31);
        run.x.tick(8);
        run.wireIs("PREPARES", "1:0>1(8,0) 1:0>2(8,0) 1:0>3(8,0) 1:0>4(8,0)");
        Check.due("the last", run.x.deliver(3), 4);
        run.wireIs("the others stay in order", "1:0>1(8,0) 1:0>2(8,0) 1:0>3(8,0) 2:4>0(8,0)");
        Check.due("the first", run.x.deliver(0), 1);
        run.wireIs("the others stay in order", "1:0>2(8,0) 1:0>3(8,0) 2:4>0(8,0) 2:1>0(8,0)");
        Check.due("one between", run.x.deliver(1), 3);
        run.wireIs("the others stay in order", "1:0>2(8,0) 2:4>0(8,0) 2:1>0(8,0) 2:3>0(8,0)");
        Check.due("the last", run.x.deliver(3), 0);
        Check.due("the last", run.x.deliver(2), 0);
        Check.due("the last", run.x.deliver(1), 0);
        run.aboutIs("GRANTS", 0, 10, 27);
        Run lone = new Run(3);
        lone.x.tick(8);
        lone.x.fall(1);
        Check.due("the only one", lone.x.deliver(0), 1);
        lone.wireIs("nothing is left", "");
    }

    private static void takenBeforeItIsDelivered() {
        Run run = Run.ledBy0(7);
        run.x.ask(0, 0, 1, Run.PUT, 5, 0);
        run.hand(Run.ACCEPT, 1);
        run.wireIs("ACCEPTED", "4:0>2(8,1) 5:1>0(8,1)");
        run.fillUpTo(300);
        run.x.deliver(1);
        Check.due("CHOSEN to 1 has the room that is free now", run.x.message(299, 2), 1);
        Check.due("CHOSEN to 1 has the room that is free now", run.x.message(299, 0), Run.CHOSEN);
        Check.due("300 again", run.x.count(0), 300);
        Check.due("CHOSEN to 2 is lost", run.x.count(2), 1);
        run.aboutIs("what is chosen is applied", 0, 4, 1);
    }

    private static void deliverToOneThatFell() {
        Run run = new Run(3);
        run.x.tick(8);
        run.x.copy(0);
        run.x.fall(1);
        Check.due("the NODE that it went to", run.x.deliver(0), 1);
        run.wireIs("no answer", "1:0>1(8,0)");
        run.aboutIs("1 did not hear it", 1, 3, 0);
        Check.due("it was not delivered", run.x.count(3), 0);
        Check.due("there was room for it", run.x.count(2), 0);
        run.x.rise(1);
        Check.due("the NODE that it went to", run.x.deliver(0), 1);
        run.aboutIs("1 is LIVE again", 1, 3, 8);
    }

    private static void noneToDeliver() {
        Run run = new Run(7);
        for (int k : new int[] {0, -1, 1, 299, 300, LEAST, MOST}) {
            run.refuses("deliver(" + k + ") of none", () -> run.x.deliver(k), Check.NO_ELEMENT);
        }
        run.x.tick(8);
        for (int k : new int[] {2, -1, 300, LEAST, MOST}) {
            run.refuses("deliver(" + k + ") of two", () -> run.x.deliver(k), Check.NO_ELEMENT);
        }
        Run full = new Run(127);
        full.x.tick(50);
        Check.due("all that there may be", full.x.count(0), 300);
        for (int k : new int[] {300, -1}) {
            full.refuses("deliver(" + k + ") of 300", () -> full.x.deliver(k), Check.NO_ELEMENT);
        }
        Check.due("the last of 300", full.x.message(299, 2), full.x.deliver(299));
    }

    private static void dropFirstAndLast() {
        Run run = new Run(31);
        run.x.tick(8);
        Check.due("the last of four", run.x.drop(3), 3);
        run.wireIs("the others stay in order", "1:0>1(8,0) 1:0>2(8,0) 1:0>3(8,0)");
        Check.due("the first of three", run.x.drop(0), 2);
        run.wireIs("the others stay in order", "1:0>2(8,0) 1:0>3(8,0)");
        Check.due("the last of two", run.x.drop(1), 1);
        Check.due("the only one", run.x.drop(0), 0);
        run.wireIs("nothing is left", "");
        for (int node = 1; node < 5; node++) {
            run.aboutIs("nothing was delivered", node, 3, 0);
        }
        run.x.tick(50);
        run.x.tick(50);
        Check.due("the last of 300", run.x.drop(299), 299);
        Check.due("the last of 299", run.x.drop(298), 298);
    }

    private static void noneToDrop() {
        Run run = new Run(7);
        for (int k : new int[] {0, -1, 1, 299, 300, LEAST, MOST}) {
            run.refuses("drop(" + k + ") of none", () -> run.x.drop(k), Check.NO_ELEMENT);
        }
        run.x.tick(8);
        for (int k : new int[] {2, -1, 300, LEAST, MOST}) {
            run.refuses("drop(" + k + ") of two", () -> run.x.drop(k), Check.NO_ELEMENT);
        }
        run.x.drop(0);
        run.refuses("drop(1) of one", () -> run.x.drop(1), Check.NO_ELEMENT);
        run.x.drop(0);
        run.refuses("drop(0) of none", () -> run.x.drop(0), Check.NO_ELEMENT);
    }

    // Promises 5 and 6

    private static void copyFirstAndLast() {
        Run run = new Run(15);
        run.x.tick(8);
        Check.due("the last", run.x.copy(2), 4);
        run.wireIs("at the end", "1:0>1(8,0) 1:0>2(8,0) 1:0>3(8,0) 1:0>3(8,0)");
        Check.due("the first", run.x.copy(0), 5);
        run.wireIs("at the end", "1:0>1(8,0) 1:0>2(8,0) 1:0>3(8,0) 1:0>3(8,0) 1:0>1(8,0)");
        Check.due("a copy", run.x.copy(4), 6);
        Check.due("to 1", run.x.deliver(5), 1);
        Check.due("to 1 again", run.x.deliver(4), 1);
        Check.due("to 1 again", run.x.deliver(0), 1);
        Check.due("each was answered", run.x.count(1), 6);
    }

    private static void copyHasAllThatIsInIt() {
        Run run = Run.ledBy0(7);
        run.x.key(9);
        run.x.ask(0, 3, 1, Run.PUT, 5, 0);
        run.hand(Run.ACCEPT, 1);
        run.dropAll();
        run.x.fall(0);
        run.x.tick(6);
        run.hand(Run.PREPARE, 1);
        run.x.copy(1);
        Check.due("how many ACCEPTED in the copy", run.x.message(2, 5), 1);
        run.x.drop(1);
        run.hand(Run.PROMISE, 2);
        run.x.copy(run.find(Run.ACCEPT, 1));
        run.x.drop(run.find(Run.ACCEPT, 1));
        run.hand(Run.ACCEPT, 1);
        run.hand(Run.ACCEPTED, 2);
        run.x.copy(run.find(Run.CHOSEN, 1));
        run.x.drop(run.find(Run.CHOSEN, 1));
        run.hand(Run.CHOSEN, 1);
        Check.due("all came in copies", run.x.number(1, 9), 5);
        Check.due("all came in copies", run.x.answer(1, 3, 0), 1);

        Run behind = Run.ledBy0(7);
        behind.chooseWith1(1, 17);
        behind.x.tick(3);
        behind.hand(Run.HEART, 2);
        behind.hand(Run.WANT, 0);
        behind.x.copy(behind.find(Run.SNAPSHOT, 2));
        behind.x.drop(behind.find(Run.SNAPSHOT, 2));
        behind.hand(Run.SNAPSHOT, 2);
        Check.due("the copy of a SNAPSHOT", behind.x.number(2, 0), 17);
    }

    private static void noneToCopy() {
        Run run = new Run(7);
        for (int k : new int[] {0, -1, 1, 299, 300, LEAST, MOST}) {
            run.refuses("copy(" + k + ") of none", () -> run.x.copy(k), Check.NO_ELEMENT);
        }
        run.x.tick(8);
        for (int k : new int[] {2, -1, 300, LEAST, MOST}) {
            run.refuses("copy(" + k + ") of two", () -> run.x.copy(k), Check.NO_ELEMENT);
        }
    }

    private static void copyInto300() {
        Run run = new Run(127);
        run.x.tick(50);
        run.x.drop(0);
        Check.due("copy(298) of 299", run.x.copy(298), 300);
        int lost = run.x.count(2);
        for (int k : new int[] {0, 1, 298, 299}) {
            run.refuses("copy(" + k + ") of 300", () -> run.x.copy(k), Check.STATE);
        }
        Check.due("what is refused is not lost", run.x.count(2), lost);
        run.x.drop(150);
        Check.due("copy(0) of 299", run.x.copy(0), 300);
    }

    private static void noneToCopyOf300() {
        Run run = new Run(127);
        run.x.tick(50);
        for (int k : new int[] {-1, 300, 301, LEAST, MOST}) {
            run.refuses("copy(" + k + ") of 300", () -> run.x.copy(k), Check.NO_ELEMENT);
        }
    }

    private static void messageIs(Run run, String name, int kind, int to, int... due) {
        int k = run.find(kind, to);
        for (int i = 0; i < due.length; i++) {
            Check.due(name + ": what " + (3 + i), run.x.message(k, 3 + i), due[i]);
        }
        Check.due(name + ": kind", run.x.message(k, 0), kind);
        Check.due(name + ": to", run.x.message(k, 2), to);
    }

    private static void zerosOfMessages() {
        Run run = new Run(7);
        run.x.tick(8);
        messageIs(run, "PREPARE", Run.PREPARE, 1, 8, 0, 0);
        run.hand(Run.PREPARE, 1);
        messageIs(run, "PROMISE of none", Run.PROMISE, 0, 8, 0, 0);
        run.hand(Run.PROMISE, 0);
        run.x.ask(0, 0, 1, Run.PUT, 5, 0);
        messageIs(run, "ACCEPT", Run.ACCEPT, 1, 8, 1, 0);
        run.hand(Run.ACCEPT, 1);
        messageIs(run, "ACCEPTED", Run.ACCEPTED, 0, 8, 1, 0);
        run.hand(Run.ACCEPTED, 0);
        messageIs(run, "CHOSEN", Run.CHOSEN, 1, 0, 1, 0);
        run.x.tick(3);
        messageIs(run, "HEART", Run.HEART, 1, 8, 1, 0);
        run.hand(Run.HEART, 1);
        messageIs(run, "WANT", Run.WANT, 0, 0, 1, 0);
        run.x.tick(3);
        run.aboutIs("2 LEADS", 2, 2, 10);
        run.hand(Run.PREPARE, 2);
        messageIs(run, "REJECT", Run.REJECT, 0, 10, 0, 0);

        Run behind = Run.ledBy0(7);
        behind.chooseWith1(1, 17);
        behind.x.tick(3);
        messageIs(behind, "HEART of A = 17", Run.HEART, 2, 8, 17, 0);
        behind.hand(Run.HEART, 2);
        behind.hand(Run.WANT, 0);
        messageIs(behind, "SNAPSHOT", Run.SNAPSHOT, 2, 0, 17, 0);
    }

    private static void acceptedInAPromise() {
        Run run = Run.ledBy0(7);
        for (int seq = 1; seq <= 32; seq++) {
            run.x.ask(0, 0, seq, Run.ADD, 1, 0);
            run.hand(Run.ACCEPT, 2);
            run.chooseWhatIsAsked();
            run.dropAll();
        }
        run.aboutIs("ACCEPTED", 2, 12, 32);
        run.x.fall(0);
        run.x.tick(11);
        run.hand(Run.PREPARE, 2);
        messageIs(run, "PROMISE of 32", Run.PROMISE, 1, 17, 0, 32);
    }

    private static void noMessage() {
        Run run = new Run(7);
        for (int k : new int[] {0, -1, 1, 299, 300, LEAST, MOST}) {
            run.refuses("message(" + k + ", 0) of none", () -> run.x.message(k, 0), Check.NO_ELEMENT);
            run.refuses("message(" + k + ", 6) of none", () -> run.x.message(k, 6), Check.NO_ELEMENT);
        }
        run.x.tick(8);
        for (int k : new int[] {2, -1, 300, LEAST, MOST}) {
            run.refuses("message(" + k + ", 0) of two", () -> run.x.message(k, 0), Check.NO_ELEMENT);
            run.refuses("message(" + k + ", -1) of two", () -> run.x.message(k, -1), Check.NO_ELEMENT);
        }
        run.x.drop(1);
        run.refuses("message(1, 0) of one", () -> run.x.message(1, 0), Check.NO_ELEMENT);
    }

    private static void noSuchWhatOfAMessage() {
        Run run = new Run(7);
        run.x.tick(8);
        for (int what : new int[] {-1, 6, 7, LEAST, MOST}) {
            run.refuses("message(0, " + what + ")", () -> run.x.message(0, what), Check.ARGUMENT);
            run.refuses("message(1, " + what + ")", () -> run.x.message(1, what), Check.ARGUMENT);
        }
    }

    // Promises 7 and 8

    /** 0 has led, applied SLOT 1 and proposed SLOTS 2 .. 5; three requests are in its QUEUE. */
    private static Run busyLeader() {
        Run run = Run.ledBy0(7);
        run.x.key(6);
        run.x.ask(0, 1, 1, Run.PUT, 50, 0);
        run.settle();
        for (int seq = 2; seq <= 8; seq++) {
            run.x.ask(0, 1, seq, Run.ADD, 1, 0);
        }
        return run;
    }

    private static void fallTakesWhatIsLive() {
        Run run = busyLeader();
        int[] before = {1, 1, 8, 8, 1, 0, 7, 0, 3, 3, 7, 4, 4, 1};
        int[] behind = {0, 0, 0, 8, 1, 0, 7, -1, 0, 0, 0, 0, 4, 1};
        for (int what = 0; what < 14; what++) {
            run.aboutIs("before", 0, what, before[what]);
        }
        String wire = run.wire();
        run.x.fall(0);
        for (int what = 0; what < 14; what++) {
            run.aboutIs("behind", 0, what, behind[what]);
        }
        run.wireIs("what is on its way is not the NODE's", wire);
        run.x.tick(50);
        run.aboutIs("no TIMER runs", 0, 8, 0);
    }

    private static void fallLeavesTheRest() {
        Run run = busyLeader();
        run.x.fall(0);
        Check.due("a number", run.x.number(0, 6), 50);
        Check.due("a seq", run.x.answer(0, 1, 0), 1);
        Check.due("a RESULT", run.x.answer(0, 1, 1), Run.NONE);
        Check.due("a KNOWN VALUE", run.x.known(0, 1, 4), 50);
        run.dropAll();
        run.x.tick(11);
        run.x.rise(0);
        run.hand(Run.PREPARE, 0);
        messageIs(run, "PROMISE of the four it ACCEPTED", Run.PROMISE, 1, 17, 1, 4);
    }

    private static void noNodeToFall() {
        Run run = Run.ledBy0(7);
        for (int node : NO_NODES) {
            run.refuses("fall(" + node + ")", () -> none(() -> run.x.fall(node)), Check.NO_ELEMENT);
        }
        run.x.fall(0);
        run.x.fall(6);
        run.aboutIs("the first NODE", 0, 0, 0);
        run.aboutIs("the last NODE", 6, 0, 0);
    }

    private static void fallTwice() {
        Run run = Run.ledBy0(7);
        for (int node = 0; node < 7; node++) {
            int n = node;
            run.x.fall(node);
            run.refuses("fall(" + node + ")", () -> none(() -> run.x.fall(n)), Check.STATE);
        }
        run.x.rise(4);
        run.x.fall(4);
        run.refuses("fall(4)", () -> none(() -> run.x.fall(4)), Check.STATE);
    }

    private static void riseOfEach() {
        Run run = Run.ledBy0(127);
        run.x.tick(2);
        for (int node = 0; node < 7; node++) {
            run.x.fall(node);
            run.x.rise(node);
            run.aboutIs("it rose", node, 0, 1);
            run.aboutIs("it rose", node, 8, 8 + 3 * node);
        }
        run.x.tick(8);
        run.aboutIs("its TIMER runs", 0, 1, 1);
    }

    private static void riseBringsNothingBack() {
        Run run = busyLeader();
        run.x.fall(0);
        run.x.rise(0);
        int[] due = {1, 0, 0, 8, 1, 0, 7, -1, 8, 0, 0, 0, 4, 1};
        for (int what = 0; what < 14; what++) {
            run.aboutIs("it rose", 0, what, due[what]);
        }
        Check.due("it does not LEAD", run.x.ask(0, 0, 9, Run.ADD, 1, 0), -1);
        run.x.fall(1);
        run.x.fall(2);
        run.dropAll();
        run.x.tick(8);
        int[] leads = {1, 1, 16, 16, 1, 0, 7, 0, 3, 0, 1, 0, 4, 1};
        for (int what = 0; what < 14; what++) {
            run.aboutIs("it LEADS anew", 0, what, leads[what]);
        }
    }

    private static void noNodeToRise() {
        Run run = Run.ledBy0(7);
        run.x.fall(0);
        run.x.fall(6);
        for (int node : NO_NODES) {
            run.refuses("rise(" + node + ")", () -> none(() -> run.x.rise(node)), Check.NO_ELEMENT);
        }
        run.x.rise(0);
        run.x.rise(6);
        run.aboutIs("the first NODE", 0, 0, 1);
        run.aboutIs("the last NODE", 6, 0, 1);
    }

    private static void riseTwice() {
        Run run = Run.ledBy0(7);
        for (int node = 0; node < 7; node++) {
            int n = node;
            run.refuses("rise(" + node + ")", () -> none(() -> run.x.rise(n)), Check.STATE);
        }
        run.x.fall(2);
        run.x.rise(2);
        run.refuses("rise(2)", () -> none(() -> run.x.rise(2)), Check.STATE);
    }

    // Promises 9 and 10

    private static void leastAndGreatestKey() {
        Run run = Run.ledBy0(1);
        run.x.ask(0, 0, 1, Run.PUT, 10, 0);
        Check.due("0 at first", run.x.number(0, 0), 10);
        Check.due("0 at first", run.x.key(31), 0);
        run.x.ask(0, 0, 2, Run.PUT, 11, 0);
        Check.due("the last key", run.x.number(0, 31), 11);
        Check.due("what it was", run.x.key(0), 31);
        run.x.ask(0, 0, 3, Run.ADD, 1, 0);
        Check.due("the first key", run.x.number(0, 0), 11);
        Check.due("what it was", run.x.key(0), 0);
        for (int key = 1; key <= 31; key++) {
            Check.due("what it was", run.x.key(key), key - 1);
        }
    }

    private static void keyAtTheTimeOfTheAsk() {
        Run run = Run.ledBy0(7);
        for (int seq = 1; seq <= 6; seq++) {
            run.x.key(seq);
            run.x.ask(0, 0, seq, Run.PUT, seq * 10, 0);
        }
        run.aboutIs("two in the QUEUE", 0, 9, 2);
        run.x.key(20);
        run.settle();
        for (int key = 1; key <= 6; key++) {
            Check.due("each has its own key", run.x.number(2, key), key * 10);
            Check.due("each has its own key", run.x.known(2, key, 3), key);
        }
        Check.due("none at the last key", run.x.number(2, 20), Run.NONE);
        run.x.ask(0, 0, 7, Run.PUT, 1, 0);
        run.x.ask(0, 0, 8, Run.ADD, 1, 0);
        run.settle();
        Check.due("it is the key of all that come", run.x.number(2, 20), 2);
    }

    private static void anotherKey() {
        Run run = Run.ledBy0(1);
        run.x.key(17);
        for (int key : new int[] {-1, 32, 33, LEAST, MOST}) {
            run.refuses("key(" + key + ")", () -> run.x.key(key), Check.ARGUMENT);
        }
        run.x.ask(0, 0, 1, Run.PUT, 3, 0);
        Check.due("the key is as it was", run.x.number(0, 17), 3);
        Check.due("the key is as it was", run.x.key(0), 17);
    }

    private static void leastAndGreatestKind() {
        Run run = Run.ledBy0(1);
        for (int kind = 1; kind <= 6; kind++) {
            Check.due("kind " + kind, run.x.ask(0, 0, kind, kind, 1, 1), 0);
            Check.due("kind " + kind, run.x.known(0, kind, 0), kind);
        }
    }

    private static void leastAndGreatestValue() {
        Run run = Run.ledBy0(1);
        Check.due("client 0, seq 1", run.x.ask(0, 0, 1, Run.PUT, LEAST, MOST), 0);
        Check.due("client 7, the greatest seq", run.x.ask(0, 7, MOST, Run.SWAP, MOST, LEAST), 0);
        int[][] due = {{1, 0, 1, 0, LEAST, MOST}, {4, 7, MOST, 0, MOST, LEAST}};
        for (int what = 0; what < 6; what++) {
            Check.due("SLOT 1", run.x.known(0, 1, what), due[0][what]);
            Check.due("SLOT 2", run.x.known(0, 2, what), due[1][what]);
        }
        Check.due("no seq is above it", run.x.ask(0, 7, MOST, Run.PUT, 1, 1), -2);
        Check.due("no seq is above it", run.x.answer(0, 7, 0), MOST);
    }

    private static void askOfNone() {
        Run run = Run.ledBy0(7);
        run.x.fall(3);
        for (int node : NO_NODES) {
            run.refuses("node " + node, () -> run.x.ask(node, 0, 1, 1, 0, 0), Check.NO_ELEMENT);
            run.refuses("node " + node + ", kind 7", () -> run.x.ask(node, 0, 1, 7, 0, 0), Check.NO_ELEMENT);
            run.refuses("node " + node + ", seq 0", () -> run.x.ask(node, 0, 0, 1, 0, 0), Check.NO_ELEMENT);
        }
        for (int client : NO_CLIENTS) {
            run.refuses("client " + client, () -> run.x.ask(0, client, 1, 1, 0, 0), Check.NO_ELEMENT);
            run.refuses("client " + client + ", kind 0", () -> run.x.ask(0, client, 1, 0, 0, 0), Check.NO_ELEMENT);
            run.refuses("client " + client + ", seq 0", () -> run.x.ask(0, client, 0, 1, 0, 0), Check.NO_ELEMENT);
            run.refuses("client " + client + " of 3, which fell", () -> run.x.ask(3, client, 1, 1, 0, 0),
                Check.NO_ELEMENT);
            run.refuses("client " + client + " of 1, which does not LEAD", () -> run.x.ask(1, client, 1, 1, 0, 0),
                Check.NO_ELEMENT);
        }
    }

    private static void askOfAnotherKind() {
        Run run = Run.ledBy0(7);
        run.x.fall(3);
        for (int kind : new int[] {0, -1, 7, 8, LEAST, MOST}) {
            for (int node : new int[] {0, 1, 3}) {
                run.refuses("kind " + kind + " of " + node, () -> run.x.ask(node, 0, 1, kind, 0, 0), Check.ARGUMENT);
            }
        }
    }

    private static void askOfSeqBelow1() {
        Run run = Run.ledBy0(7);
        run.x.fall(3);
        for (int seq : new int[] {0, -1, LEAST}) {
            for (int node : new int[] {0, 1, 3}) {
                run.refuses("seq " + seq + " of " + node, () -> run.x.ask(node, 0, seq, 1, 0, 0), Check.ARGUMENT);
            }
        }
    }

    private static void askOfOneThatFell() {
        Run run = Run.ledBy0(7);
        run.x.fall(0);
        run.x.fall(6);
        run.refuses("0 fell", () -> run.x.ask(0, 0, 1, 1, 0, 0), Check.STATE);
        run.refuses("6 fell", () -> run.x.ask(6, 7, MOST, 6, 0, 0), Check.STATE);
        run.x.rise(0);
        Check.due("0 rose", run.x.ask(0, 0, 1, 1, 0, 0), -1);
    }

    private static void leavesAll(Run run, String what, Check.Call call, int due) {
        String before = run.sight();
        Check.isThrown(what, call, Integer.toString(due));
        Check.same(what + " changed nothing", run.sight().equals(before) ? "yes" : "no", "yes");
    }

    private static void askOfOneThatDoesNotLead() {
        Run run = new Run(7);
        leavesAll(run, "nobody LEADS", () -> run.x.ask(0, 0, 1, Run.PUT, 1, 0), -1);
        run.x.tick(8);
        run.settle();
        leavesAll(run, "a follower", () -> run.x.ask(1, 0, 1, Run.PUT, 1, 0), -1);
        leavesAll(run, "no member", () -> run.x.ask(6, 0, 1, Run.PUT, 1, 0), -1);
        run.x.tick(3);
        run.hand(Run.PREPARE, 0);
        run.aboutIs("0 stepped down", 0, 1, 0);
        leavesAll(run, "it stepped down", () -> run.x.ask(0, 0, 1, Run.PUT, 1, 0), -1);
    }

    private static void askWithoutMajority() {
        Run run = new Run(15);
        run.x.tick(8);
        leavesAll(run, "one of four", () -> run.x.ask(0, 0, 1, Run.PUT, 1, 0), -1);
        run.hand(Run.PREPARE, 1);
        run.hand(Run.PROMISE, 0);
        leavesAll(run, "two of four", () -> run.x.ask(0, 0, 1, Run.PUT, 1, 0), -1);
        run.hand(Run.PREPARE, 2);
        run.hand(Run.PROMISE, 0);
        Check.due("three of four", run.x.ask(0, 0, 1, Run.PUT, 1, 0), 0);
    }

    private static void askWithMajorityOfTheNextAlone() {
        Run run = Run.slot5HasOthers();
        run.chooseWith1(1, 2);
        run.aboutIs("SLOT 5 is next", 0, 6, 25);
        leavesAll(run, "SLOT 6 has a MAJORITY, SLOT 5 has none", () -> run.x.ask(0, 0, 3, Run.PUT, 1, 0), -1);

        Run before = Run.slot5HasOthers();
        before.chooseWith1(1, 1);
        Check.due("SLOT 4 has a MAJORITY, SLOT 5 has none", before.x.ask(0, 0, 2, Run.ADD, 1, 0), 0);
        Check.due("it waits", before.x.ask(0, 0, 3, Run.ADD, 1, 0), 0);
        before.aboutIs("it waits", 0, 9, 1);
    }

    private static void askForAnOldSeq() {
        Run run = Run.ledBy0(1);
        run.x.ask(0, 2, 10, Run.ADD, 1, 0);
        leavesAll(run, "the same", () -> run.x.ask(0, 2, 10, Run.ADD, 1, 0), -2);
        leavesAll(run, "one less", () -> run.x.ask(0, 2, 9, Run.ADD, 1, 0), -2);
        leavesAll(run, "the least", () -> run.x.ask(0, 2, 1, Run.ADD, 1, 0), -2);
        Check.due("another client", run.x.ask(0, 3, 10, Run.ADD, 1, 0), 0);
        Check.due("one more", run.x.ask(0, 2, 11, Run.ADD, 1, 0), 0);
    }

    private static void askForOneInTheQueue() {
        Run run = Run.queueOf(3);
        leavesAll(run, "the first", () -> run.x.ask(0, 0, 5, Run.ADD, 1, 0), -3);
        leavesAll(run, "the last", () -> run.x.ask(0, 0, 7, Run.GET, 9, 9), -3);
        Check.due("behind the last", run.x.ask(0, 0, 8, Run.ADD, 1, 0), 0);
        Run full = Run.queueOf(16);
        leavesAll(full, "the last of 16", () -> full.x.ask(0, 0, 20, Run.ADD, 1, 0), -3);
    }

    private static void askForAProposal() {
        Run run = Run.queueOf(0);
        leavesAll(run, "the first", () -> run.x.ask(0, 0, 1, Run.ADD, 1, 0), -3);
        leavesAll(run, "the last", () -> run.x.ask(0, 0, 4, Run.GET, 9, 9), -3);
        run.x.deliver(2);
        run.hand(Run.ACCEPTED, 0);
        run.aboutIs("SLOT 2 is chosen", 0, 11, 3);
        run.aboutIs("and waits for SLOT 1", 0, 4, 0);
        Check.due("it is a PROPOSAL no more, nor applied", run.x.ask(0, 0, 2, Run.ADD, 1, 0), 0);
    }

    private static void askForClientAndSeq() {
        Run run = Run.queueOf(1);
        Check.due("another client, a PROPOSAL's seq", run.x.ask(0, 1, 1, Run.ADD, 1, 0), 0);
        Check.due("another client, the QUEUE's seq", run.x.ask(0, 1, 5, Run.ADD, 1, 0), 0);
        Check.due("a lesser seq that is nowhere", run.x.ask(0, 1, 4, Run.ADD, 1, 0), 0);
        leavesAll(run, "the same, but for all else", () -> run.x.ask(0, 1, 5, Run.MEMBERS, 127, 3), -3);
    }

    private static void askWithAFullQueue() {
        Run run = Run.queueOf(15);
        Check.due("the 16th", run.x.ask(0, 0, 20, Run.ADD, 1, 0), 0);
        run.aboutIs("QUEUE", 0, 9, 16);
        leavesAll(run, "the 17th", () -> run.x.ask(0, 0, 21, Run.ADD, 1, 0), -4);
        leavesAll(run, "the 17th", () -> run.x.ask(0, 5, 1, Run.GET, 0, 0), -4);
        run.hand(Run.ACCEPT, 1);
        run.hand(Run.ACCEPTED, 0);
        run.aboutIs("one went out of it", 0, 9, 15);
        Check.due("there is place", run.x.ask(0, 0, 21, Run.ADD, 1, 0), 0);
        Check.due("for one", run.x.ask(0, 0, 22, Run.ADD, 1, 0), -4);
        run.settle();
        Check.due("all counted", run.x.number(2, 0), 21);
    }

    private static void minus1First() {
        Run run = Run.queueOf(16);
        run.hand(Run.ACCEPT, 1);
        run.hand(Run.ACCEPTED, 0);
        run.settle();
        Check.due("it LEADS: seq 1 is old", run.x.ask(0, 0, 1, Run.ADD, 1, 0), -2);
        Check.due("1 does not: seq 1 is old", run.x.ask(1, 0, 1, Run.ADD, 1, 0), -1);

        Run others = Run.slot5HasOthers();
        for (int seq = 1; seq <= 18; seq++) {
            Check.due("ask", others.x.ask(0, 0, seq, Run.ADD, 1, 0), 0);
        }
        Check.due("the QUEUE is full", others.x.ask(0, 0, 19, Run.ADD, 1, 0), -4);
        others.hand(Run.ACCEPT, 1);
        others.hand(Run.ACCEPT, 1);
        others.hand(Run.ACCEPTED, 0);
        others.hand(Run.ACCEPTED, 0);
        others.aboutIs("SLOT 5 is next", 0, 4, 4);
        others.aboutIs("the QUEUE is full", 0, 9, 16);
        Check.due("no MAJORITY: an old seq", others.x.ask(0, 0, 1, Run.ADD, 1, 0), -1);
        Check.due("no MAJORITY: it is in the QUEUE", others.x.ask(0, 0, 3, Run.ADD, 1, 0), -1);
        Check.due("no MAJORITY: the QUEUE is full", others.x.ask(0, 0, 19, Run.ADD, 1, 0), -1);
    }

    private static void minus2BeforeTheOthers() {
        Run run = Run.ledBy0(7);
        for (int seq = 20; seq >= 1; seq--) {
            Check.due("ask", run.x.ask(0, 0, seq, Run.ADD, 1, 0), 0);
        }
        run.hand(Run.ACCEPT, 1);
        run.hand(Run.ACCEPTED, 0);
        Check.due("seq 20 is the last", run.x.answer(0, 0, 0), 20);
        Check.due("seq 19 is a PROPOSAL, too", run.x.ask(0, 0, 19, Run.ADD, 1, 0), -2);
        Check.due("seq 1 is in the QUEUE, too", run.x.ask(0, 0, 1, Run.ADD, 1, 0), -2);
        Check.due("16 again", run.x.ask(0, 0, 21, Run.ADD, 1, 0), 0);
        Check.due("seq 20, and the QUEUE is full", run.x.ask(0, 0, 20, Run.ADD, 1, 0), -2);
    }

    private static void minus3Before4() {
        Run run = Run.queueOf(16);
        Check.due("a PROPOSAL, and the QUEUE is full", run.x.ask(0, 0, 1, Run.ADD, 1, 0), -3);
        Check.due("in the QUEUE, which is full", run.x.ask(0, 0, 5, Run.ADD, 1, 0), -3);
        Check.due("in the QUEUE, which is full", run.x.ask(0, 0, 20, Run.ADD, 1, 0), -3);
        Check.due("the QUEUE is full", run.x.ask(0, 0, 21, Run.ADD, 1, 0), -4);
    }

    private static void takenRequests() {
        Run run = Run.queueOf(2);
        run.settle();
        run.aboutIs("the QUEUE is empty", 0, 9, 0);
        for (int slot = 1; slot <= 6; slot++) {
            Check.due("the first is proposed first", run.x.known(1, slot, 2), slot);
        }
        Run alone = Run.ledBy0(1);
        Check.due("alone", alone.x.ask(0, 0, 1, Run.ADD, 1, 0), 0);
        alone.aboutIs("at once", 0, 4, 1);
        alone.aboutIs("nothing waits", 0, 9, 0);
        alone.aboutIs("nothing is proposed", 0, 11, 0);
    }

    // Promises 11 and 12

    private static void answersOfFirstAndLastClient() {
        Run run = Run.ledBy0(7);
        run.x.ask(0, 0, 1, Run.PUT, 5, 0);
        run.x.ask(0, 7, MOST, Run.ADD, -7, 0);
        run.settle();
        for (int node = 0; node < 3; node++) {
            Check.due("seq of client 0", run.x.answer(node, 0, 0), 1);
            Check.due("RESULT of client 0", run.x.answer(node, 0, 1), Run.NONE);
            Check.due("seq of client 7", run.x.answer(node, 7, 0), MOST);
            Check.due("RESULT of client 7", run.x.answer(node, 7, 1), -2);
        }
        for (int client = 1; client <= 6; client++) {
            Check.due("no seq yet", run.x.answer(0, client, 0), 0);
            Check.due("no RESULT yet", run.x.answer(0, client, 1), 0);
        }
        Check.due("6 has heard of nothing", run.x.answer(6, 7, 0), 0);
        run.x.fall(2);
        Check.due("seq as one that fell has it", run.x.answer(2, 7, 0), MOST);
        Check.due("RESULT as one that fell has it", run.x.answer(2, 7, 1), -2);
    }

    private static void answerOfNone() {
        Run run = Run.ledBy0(7);
        for (int node : NO_NODES) {
            for (int what : new int[] {0, 1, 2, -1}) {
                run.refuses("answer(" + node + ", 0, " + what + ")", () -> run.x.answer(node, 0, what),
                    Check.NO_ELEMENT);
            }
        }
        for (int client : NO_CLIENTS) {
            for (int what : new int[] {0, 1, 2, -1}) {
                run.refuses("answer(0, " + client + ", " + what + ")", () -> run.x.answer(0, client, what),
                    Check.NO_ELEMENT);
            }
        }
    }

    private static void anotherWhatOfAnAnswer() {
        Run run = Run.ledBy0(7);
        for (int what : new int[] {-1, 2, 3, LEAST, MOST}) {
            run.refuses("answer(0, 0, " + what + ")", () -> run.x.answer(0, 0, what), Check.ARGUMENT);
            run.refuses("answer(6, 7, " + what + ")", () -> run.x.answer(6, 7, what), Check.ARGUMENT);
        }
    }

    private static void numbersAtFirstAndLastKey() {
        Run run = Run.ledBy0(7);
        run.x.ask(0, 0, 1, Run.PUT, LEAST, 0);
        run.x.key(31);
        run.x.ask(0, 0, 2, Run.PUT, MOST, 0);
        run.settle();
        for (int node = 0; node < 3; node++) {
            Check.due("the first key", run.x.number(node, 0), LEAST);
            Check.due("the last key", run.x.number(node, 31), MOST);
        }
        Check.due("6 has heard of nothing", run.x.number(6, 0), Run.NONE);
        run.x.fall(2);
        Check.due("as one that fell has it", run.x.number(2, 31), MOST);
    }

    private static void noneIsNoNumber() {
        Run run = Run.ledBy0(1);
        run.x.key(5);
        Check.due("none at first", run.x.number(0, 5), 1099511627776L);
        run.x.ask(0, 0, 1, Run.PUT, 0, 0);
        Check.due("0 is a number", run.x.number(0, 5), 0);
        run.x.ask(0, 0, 2, Run.PUT, -1, 0);
        Check.due("-1 is a number", run.x.number(0, 5), -1);
        run.x.ask(0, 0, 3, Run.TAKE, 0, 0);
        Check.due("none again", run.x.number(0, 5), 1099511627776L);
    }

    private static void numberOfNone() {
        Run run = Run.ledBy0(7);
        for (int node : NO_NODES) {
            run.refuses("number(" + node + ", 0)", () -> run.x.number(node, 0), Check.NO_ELEMENT);
            run.refuses("number(" + node + ", 32)", () -> run.x.number(node, 32), Check.NO_ELEMENT);
        }
        for (int key : new int[] {-1, 32, 33, LEAST, MOST}) {
            run.refuses("number(0, " + key + ")", () -> run.x.number(0, key), Check.NO_ELEMENT);
            run.refuses("number(6, " + key + ")", () -> run.x.number(6, key), Check.NO_ELEMENT);
        }
    }

    // Promises 13 to 15

    private static void eachWhatOfAKnown() {
        Run run = Run.ledBy0(7);
        run.x.key(31);
        run.x.ask(0, 7, 9, Run.MEMBERS, -1, LEAST);
        run.settle();
        int[] due = {6, 7, 9, 31, -1, LEAST};
        run.x.fall(1);
        for (int node = 0; node < 3; node++) {
            for (int what = 0; what <= 5; what++) {
                Check.due("known(" + node + ", 1, " + what + ")", run.x.known(node, 1, what), due[what]);
            }
        }
    }

    private static void knownOfNone() {
        Run run = Run.ledBy0(7);
        run.chooseWith1(1, 2);
        for (int slot : new int[] {0, -1, 3, 4, 65, 66, -62, LEAST, MOST}) {
            run.refuses("known(0, " + slot + ", 0)", () -> run.x.known(0, slot, 0), Check.NO_ELEMENT);
            run.refuses("known(0, " + slot + ", 6)", () -> run.x.known(0, slot, 6), Check.NO_ELEMENT);
        }
        run.refuses("2 has heard of nothing", () -> run.x.known(2, 1, 0), Check.NO_ELEMENT);
        run.x.ask(0, 0, 3, Run.ADD, 1, 0);
        run.refuses("a PROPOSAL is not KNOWN", () -> run.x.known(0, 3, 0), Check.NO_ELEMENT);
        for (int node : NO_NODES) {
            run.refuses("known(" + node + ", 1, 0)", () -> run.x.known(node, 1, 0), Check.NO_ELEMENT);
            run.refuses("known(" + node + ", 1, 6)", () -> run.x.known(node, 1, 6), Check.NO_ELEMENT);
        }
    }

    private static void knownBehindAndAhead() {
        Run run = Run.ledBy0(1);
        run.chooseAlone(1, 16);
        Check.due("the first of 16", run.x.known(0, 1, 2), 1);
        run.chooseAlone(17, 17);
        run.refuses("the first of 17", () -> run.x.known(0, 1, 2), Check.NO_ELEMENT);
        run.refuses("the first of 17, another what", () -> run.x.known(0, 1, 6), Check.NO_ELEMENT);
        Check.due("the second of 17", run.x.known(0, 2, 2), 2);
        Check.due("the last of 17", run.x.known(0, 17, 2), 17);

        Run gap = Run.queueOf(0);
        gap.x.deliver(6);
        gap.hand(Run.ACCEPTED, 0);
        Check.due("SLOT 4 is KNOWN, though SLOT 1 is not", gap.x.known(0, 4, 2), 4);
        gap.aboutIs("nothing is applied", 0, 4, 0);
        gap.refuses("SLOT 3", () -> gap.x.known(0, 3, 2), Check.NO_ELEMENT);
    }

    private static void anotherWhatOfAKnown() {
        Run run = Run.ledBy0(7);
        run.chooseWith1(1, 1);
        for (int what : new int[] {-1, 6, 7, LEAST, MOST}) {
            run.refuses("known(0, 1, " + what + ")", () -> run.x.known(0, 1, what), Check.ARGUMENT);
            run.refuses("known(2, 1, " + what + ")", () -> run.x.known(2, 1, what), Check.NO_ELEMENT);
        }
    }

    private static void aboutOneThatSteppedDown() {
        Run run = Run.queueOf(3);
        run.aboutIs("QUEUE", 0, 9, 3);
        run.aboutIs("GRANTS", 0, 10, 7);
        run.aboutIs("PROPOSALS", 0, 11, 4);
        run.dropAll();
        run.x.tick(3);
        run.hand(Run.PREPARE, 0);
        int[] due = {1, 0, 8, 17, 0, 0, 7, 0, 8, 0, 0, 0, 4, 1};
        for (int what = 0; what < 14; what++) {
            run.aboutIs("it stepped down", 0, what, due[what]);
        }
        int[] never = {1, 0, 0, 8, 0, 0, 7, -1, 11, 0, 0, 0, 0, 1};
        for (int what = 0; what < 14; what++) {
            run.aboutIs("it never led", 2, what, what == 8 ? 3 : never[what]);
        }
    }

    private static void aboutOneThatFell() {
        Run run = Run.queueOf(3);
        run.hand(Run.ACCEPT, 1);
        run.aboutIs("its LEADER", 1, 7, 0);
        run.aboutIs("its TIMER", 1, 8, 11);
        run.x.fall(0);
        run.x.fall(1);
        int[] leader = {0, 0, 0, 8, 0, 0, 7, -1, 0, 0, 0, 0, 4, 1};
        int[] follower = {0, 0, 0, 8, 0, 0, 7, -1, 0, 0, 0, 0, 1, 1};
        for (int what = 0; what < 14; what++) {
            run.aboutIs("the leader fell", 0, what, leader[what]);
            run.aboutIs("the follower fell", 1, what, follower[what]);
        }
    }

    private static void aboutNone() {
        Run run = Run.ledBy0(7);
        for (int node : NO_NODES) {
            for (int what : new int[] {0, 13, 14, -1}) {
                run.refuses("about(" + node + ", " + what + ")", () -> run.x.about(node, what), Check.NO_ELEMENT);
            }
        }
    }

    private static void anotherWhatOfANode() {
        Run run = Run.ledBy0(7);
        run.x.fall(5);
        for (int what : new int[] {-1, 14, 15, LEAST, MOST}) {
            for (int node : new int[] {0, 5, 6}) {
                run.refuses("about(" + node + ", " + what + ")", () -> run.x.about(node, what), Check.ARGUMENT);
            }
        }
    }

    private static void countOnTheirWay() {
        Run run = new Run(127);
        Check.due("none", run.x.count(0), 0);
        run.x.tick(8);
        Check.due("six PREPARES", run.x.count(0), 6);
        run.x.copy(0);
        Check.due("and a copy", run.x.count(0), 7);
        run.x.drop(0);
        Check.due("one is dropped", run.x.count(0), 6);
        run.x.fall(6);
        run.x.deliver(run.find(Run.PREPARE, 6));
        Check.due("one is lost", run.x.count(0), 5);
        run.x.deliver(0);
        Check.due("one is answered", run.x.count(0), 5);
        run.x.tick(50);
        Check.due("no more than 300", run.x.count(0), 300);
    }

    private static void countSent() {
        Run run = new Run(127);
        Check.due("none", run.x.count(1), 0);
        run.x.tick(8);
        run.x.copy(0);
        run.x.copy(6);
        Check.due("without copies", run.x.count(1), 6);
        run.dropAll();
        Check.due("those that were dropped, too", run.x.count(1), 6);
        run.x.tick(50);
        int sent = run.x.count(1);
        run.refuses("copy(0) of 300", () -> run.x.copy(0), Check.STATE);
        run.x.tick(3);
        Check.same("those that are lost for want of room, too", run.x.count(1) > sent ? "more" : "no more", "more");
        Check.due("300 and 6 have found room", run.x.count(1) - run.x.count(2), 306);
    }

    private static void countLost() {
        Run run = new Run(127);
        run.x.tick(8);
        run.fillUpTo(280);
        Check.due("none", run.x.count(2), 0);
        run.x.tick(2);
        run.x.fall(1);
        run.x.drop(0);
        run.x.drop(0);
        run.x.deliver(run.find(Run.PREPARE, 1));
        Check.due("not those that are dropped or find nobody", run.x.count(2), 0);
        run.fillUpTo(288);
        run.x.tick(1);
        Check.due("12 of 0 find room", run.x.count(2), 0);
        Check.due("12 of 0 find room", run.x.count(0), 300);
        run.x.drop(0);
        run.x.tick(3);
        Check.due("1 of 12 of 0 and none of 2 finds room", run.x.count(2), 11 + 6);
        Check.due("1 of 12 of 0 finds room", run.x.count(0), 300);
        Check.due("a HEART to 1", run.x.message(299, 0) * 10 + run.x.message(299, 2), 61);
    }

    private static void countDelivered() {
        Run run = new Run(7);
        Check.due("none", run.x.count(3), 0);
        run.x.tick(8);
        run.x.copy(0);
        run.x.deliver(2);
        Check.due("a copy", run.x.count(3), 1);
        run.x.drop(0);
        Check.due("not what is dropped", run.x.count(3), 1);
        run.x.fall(2);
        run.x.deliver(0);
        Check.due("not to one that fell", run.x.count(3), 1);
        run.x.deliver(0);
        Check.due("PROMISE", run.x.count(3), 2);
    }

    private static void countElse() {
        Run run = Run.ledBy0(7);
        for (int what : new int[] {-1, 4, 5, LEAST, MOST}) {
            leavesAll(run, "count(" + what + ")", () -> run.x.count(what), -1);
        }
    }
}
