/** What the section "Terms" says, by hand: APPLYING, LEADING, WORK, CHOSEN, TICK and each of the MESSAGES. */
public final class TermsTest {
    private TermsTest() { }

    public static void main(String[] args) {
        applyingEachKind();
        applyingCountsEachRequestOnce();
        membersCountBehindTheWindow();
        severalPairsOfConfigs();
        leaderOutsideItsConfig();
        choosing();
        majorityOfAnEvenMask();
        tickSendsAgain();
        timers();
        rejectTellsAndStepsDown();
        heartStepsDownButDoesNotPromise();
        acceptOfAnOldBallot();
        bestIsProposedAgain();
        bestOfTheGreaterBallot(true);
        bestOfTheGreaterBallot(false);
        nothingFillsAGap();
        ownAcceptedAreBest();
        reachOf32();
        wantBringsEight();
        wantBringsASnapshot();
        snapshotAndWhatIsKnownAbove();
        promiseOfOneThatIsAhead();
        acceptedIsForgotten();
        oneRequestInTwoSlots();
        proposalChosenByAnother();
        oneOfPeersComesBack();
        acceptWithoutPrepare();
        whatIsOnItsWayStaysAsItWas();
        messagesOfAnEarlierBallot();
        acceptedAfterSteppingDown();
        lesserRejectTellsNothing();
        Check.finish();
    }

    private static void result(Run run, int kind, int a, int b, long result, long number) {
        int seq = (int) run.x.answer(0, 0, 0) + 1;
        Check.due("ask of kind " + kind, run.x.ask(0, 0, seq, kind, a, b), 0);
        Check.due("seq", run.x.answer(0, 0, 0), seq);
        Check.due("RESULT of kind " + kind + " with " + a + ", " + b, run.x.answer(0, 0, 1), result);
        Check.due("number after kind " + kind + " with " + a + ", " + b, run.x.number(0, 4), number);
    }

    private static void applyingEachKind() {
        Run run = Run.ledBy0(1);
        run.x.key(4);
        result(run, Run.GET, 9, 9, Run.NONE, Run.NONE);
        result(run, Run.TAKE, 9, 9, Run.NONE, Run.NONE);
        result(run, Run.SWAP, 0, 9, 0, Run.NONE);
        result(run, Run.PUT, 5, 9, Run.NONE, 5);
        result(run, Run.PUT, -6, 9, 5, -6);
        result(run, Run.GET, 9, 9, -6, -6);
        result(run, Run.SWAP, 6, 9, 0, -6);
        result(run, Run.SWAP, -6, 0, 1, 0);
        result(run, Run.SWAP, 0, 7, 1, 7);
        result(run, Run.TAKE, 9, 9, 7, Run.NONE);
        result(run, Run.ADD, -8, 9, -8, -8);
        result(run, Run.ADD, 10, 9, 2, 2);
        result(run, Run.PUT, Integer.MAX_VALUE, 9, 2, Integer.MAX_VALUE);
        result(run, Run.ADD, 1, 9, Integer.MIN_VALUE, Integer.MIN_VALUE);
        result(run, Run.MEMBERS, 128, 9, 0, Integer.MIN_VALUE);
        run.aboutIs("128 has no members", 0, 13, 1);
        result(run, Run.MEMBERS, 257, 9, 1, Integer.MIN_VALUE);
        run.aboutIs("257 has member 0", 0, 13, 2);
        Check.due("another key", run.x.number(0, 3), Run.NONE);
    }

    private static void applyingCountsEachRequestOnce() {
        Run run = Run.ledBy0(7);
        run.x.ask(0, 0, 5, Run.ADD, 1, 0);
        run.x.ask(0, 0, 4, Run.ADD, 10, 0);
        run.x.ask(0, 1, 5, Run.ADD, 100, 0);
        run.settle();
        for (int node = 0; node < 3; node++) {
            run.aboutIs("all three are applied", node, 4, 3);
            Check.due("seq 4 came behind 5", run.x.number(node, 0), 101);
            Check.due("client 0", run.x.answer(node, 0, 0), 5);
            Check.due("client 0", run.x.answer(node, 0, 1), 1);
            Check.due("client 1", run.x.answer(node, 1, 1), 101);
        }
        Check.due("it is KNOWN all the same", run.x.known(2, 2, 2), 4);
    }

    private static void membersCountBehindTheWindow() {
        Run run = Run.ledBy0(1);
        run.x.ask(0, 0, 1, Run.MEMBERS, 3, 0);
        run.wireIs("PREPARE to the new one of PEERS", "1:0>1(8,0)");
        run.aboutIs("SLOT 2 has the old members", 0, 6, 1);
        run.aboutIs("two pairs", 0, 13, 2);
        for (int seq = 2; seq <= 4; seq++) {
            Check.due("SLOTS 2 .. 4", run.x.ask(0, 0, seq, Run.ADD, 1, 0), 0);
        }
        run.wireIs("1 is one of PEERS", "1:0>1(8,0) 8:0>1(0,2) 8:0>1(0,3) 8:0>1(0,4)");
        run.aboutIs("SLOT 5 has the new members", 0, 6, 3);
        run.aboutIs("the first pair is gone", 0, 13, 1);
        Check.due("no MAJORITY of the new members", run.x.ask(0, 0, 5, Run.ADD, 1, 0), -1);
        run.hand(Run.PREPARE, 1);
        run.hand(Run.PROMISE, 0);
        run.dropAll();
        Check.due("now there is one", run.x.ask(0, 0, 5, Run.ADD, 1, 0), 0);
        run.wireIs("SLOT 5 goes to both", "4:0>1(8,5)");
        run.aboutIs("it is not chosen yet", 0, 4, 4);
        run.hand(Run.ACCEPT, 1);
        run.hand(Run.ACCEPTED, 0);
        run.aboutIs("it is chosen", 0, 4, 5);
        run.wireIs("and told", "8:0>1(0,5)");
    }

    private static void severalPairsOfConfigs() {
        Run run = Run.ledBy0(1);
        int[] masks = {3, 5, 9, 1};
        for (int i = 0; i < 4; i++) {
            run.x.ask(0, 0, i + 1, Run.MEMBERS, masks[i], 0);
            run.aboutIs("pairs", 0, 13, Math.min(4, i + 2));
        }
        run.aboutIs("SLOT 5 has the members of SLOT 1", 0, 6, 3);
        run.wireIs("PREPARE to each when it comes, CHOSEN to PEERS", "1:0>1(8,0) 8:0>1(0,2) 1:0>2(8,0)"
            + " 8:0>1(0,3) 8:0>2(0,3) 1:0>3(8,0) 8:0>1(0,4) 8:0>2(0,4) 8:0>3(0,4)");
        run.hand(Run.PREPARE, 1);
        run.hand(Run.PROMISE, 0);
        run.dropAll();
        run.x.ask(0, 0, 5, Run.ADD, 1, 0);
        run.x.ask(0, 0, 6, Run.ADD, 1, 0);
        run.wireIs("SLOT 6 wants GRANTS of 2", "4:0>1(8,5)");
        run.aboutIs("QUEUE", 0, 9, 1);
        run.hand(Run.ACCEPT, 1);
        run.hand(Run.ACCEPTED, 0);
        run.wireIs("PEERS are those of SLOTS 5 .. 8", "8:0>1(0,5) 8:0>2(0,5) 8:0>3(0,5)");
        run.aboutIs("SLOT 6 has 0 and 2", 0, 6, 5);
        run.dropAll();
        run.x.tick(3);
        run.wireIs("1 is none of PEERS any more", "6:0>2(8,5) 1:0>2(8,0) 6:0>3(8,5) 1:0>3(8,0)");
    }

    private static void leaderOutsideItsConfig() {
        Run run = Run.ledBy0(1);
        run.x.ask(0, 0, 1, Run.MEMBERS, 6, 0);
        for (int seq = 2; seq <= 4; seq++) {
            run.x.ask(0, 0, seq, Run.ADD, 1, 0);
        }
        run.hand(Run.PREPARE, 1);
        run.hand(Run.PREPARE, 2);
        run.hand(Run.PROMISE, 0);
        Check.due("one of two is no MAJORITY", run.x.ask(0, 0, 5, Run.ADD, 1, 0), -1);
        run.hand(Run.PROMISE, 0);
        run.dropAll();
        Check.due("both are", run.x.ask(0, 0, 5, Run.ADD, 1, 0), 0);
        run.aboutIs("it does not ACCEPT what it proposes", 0, 12, 0);
        run.wireIs("ACCEPT to both", "4:0>1(8,5) 4:0>2(8,5)");
        run.hand(Run.ACCEPT, 1);
        run.hand(Run.ACCEPTED, 0);
        run.aboutIs("one of two is no MAJORITY", 0, 4, 4);
        run.hand(Run.ACCEPT, 2);
        run.hand(Run.ACCEPTED, 0);
        run.aboutIs("both are", 0, 4, 5);
    }

    private static void choosing() {
        Run run = Run.ledBy0(7);
        run.x.ask(0, 0, 1, Run.ADD, 1, 0);
        run.x.ask(0, 0, 2, Run.ADD, 2, 0);
        run.wireIs("PROPOSALS", "4:0>1(8,1) 4:0>2(8,1) 4:0>1(8,2) 4:0>2(8,2)");
        run.aboutIs("0 ACCEPTED both", 0, 12, 2);
        run.x.deliver(3);
        run.x.deliver(3);
        run.wireIs("SLOT 2 is chosen", "4:0>1(8,1) 4:0>2(8,1) 4:0>1(8,2) 8:0>1(0,2) 8:0>2(0,2)");
        run.aboutIs("its PROPOSAL is gone", 0, 11, 1);
        run.aboutIs("SLOT 1 is not chosen", 0, 4, 0);
        Check.due("SLOT 2 is KNOWN", run.x.known(0, 2, 4), 2);
        run.x.ask(0, 1, 1, Run.GET, 0, 0);
        run.aboutIs("the next is proposed", 0, 11, 2);
        Check.due("in SLOT 3", run.x.message(5, 4), 3);
        run.x.drop(6);
        run.x.drop(5);
        run.x.deliver(0);
        run.x.deliver(4);
        run.aboutIs("both are applied", 0, 4, 2);
        run.aboutIs("SLOT 3 is left", 0, 11, 1);
        run.aboutIs("SLOT 3 is left", 0, 12, 1);
        run.hand(Run.ACCEPT, 2);
        String wire = run.wire();
        run.hand(Run.ACCEPTED, 0);
        Check.due("a later ACCEPTED says nothing new", run.wire().length(), wire.length() - " 5:2>0(8,1)".length());
        run.settle();
        Check.due("all have it", run.x.number(1, 0), 3);
        Check.due("all have it", run.x.number(2, 0), 3);
    }

    private static void majorityOfAnEvenMask() {
        Run run = new Run(15);
        run.x.tick(8);
        run.hand(Run.PREPARE, 1);
        run.hand(Run.PROMISE, 0);
        Check.due("two of four", run.x.ask(0, 0, 1, Run.ADD, 1, 0), -1);
        run.hand(Run.PREPARE, 3);
        run.hand(Run.PROMISE, 0);
        Check.due("three of four", run.x.ask(0, 0, 1, Run.ADD, 1, 0), 0);
        run.hand(Run.ACCEPT, 1);
        run.hand(Run.ACCEPTED, 0);
        run.aboutIs("two of four", 0, 4, 0);
        run.hand(Run.ACCEPT, 3);
        run.hand(Run.ACCEPTED, 0);
        run.aboutIs("three of four", 0, 4, 1);
    }

    private static void tickSendsAgain() {
        Run run = new Run(31);
        run.x.tick(8);
        run.hand(Run.PREPARE, 1);
        run.hand(Run.PREPARE, 3);
        run.hand(Run.PROMISE, 0);
        run.hand(Run.PROMISE, 0);
        run.x.ask(0, 0, 1, Run.ADD, 1, 0);
        run.x.ask(0, 0, 2, Run.ADD, 1, 0);
        run.hand(Run.ACCEPT, 3);
        run.hand(Run.ACCEPTED, 0);
        run.dropAll();
        run.x.tick(3);
        run.wireIs("HEART, PREPARE to those that did not grant, ACCEPT to those that did not ack",
            "6:0>1(8,0) 6:0>2(8,0) 1:0>2(8,0) 6:0>3(8,0) 6:0>4(8,0) 1:0>4(8,0)"
            + " 4:0>1(8,1) 4:0>2(8,1) 4:0>4(8,1) 4:0>1(8,2) 4:0>2(8,2) 4:0>3(8,2) 4:0>4(8,2)"
            + " 1:1>0(17,0) 1:1>2(17,0) 1:1>3(17,0) 1:1>4(17,0)");
    }

    private static void timers() {
        Run run = new Run(7);
        run.x.tick(8);
        run.settle();
        run.aboutIs("PREPARE leaves the TIMER", 1, 8, 3);
        run.aboutIs("and LEADER", 1, 7, -1);
        run.x.ask(0, 0, 1, Run.ADD, 1, 0);
        run.hand(Run.ACCEPT, 1);
        run.aboutIs("ACCEPT sets the TIMER", 1, 8, 11);
        run.aboutIs("and LEADER", 1, 7, 0);
        run.hand(Run.ACCEPTED, 0);
        run.hand(Run.CHOSEN, 2);
        run.aboutIs("CHOSEN leaves the TIMER", 2, 8, 6);
        run.aboutIs("and LEADER", 2, 7, -1);
        run.aboutIs("what is chosen is applied", 2, 4, 1);
        run.dropAll();
        run.x.tick(3);
        run.hand(Run.HEART, 2);
        run.aboutIs("HEART sets the TIMER", 2, 8, 14);
        run.aboutIs("and LEADER", 2, 7, 0);
        run.aboutIs("1 heard no HEART", 1, 8, 8);
    }

    /** 0 LEADS with 8, 1 with 9; 2 PROMISED 8 and LEADS with 18. */
    private static Run threeRivals() {
        Run run = new Run(7);
        run.x.tick(11);
        run.hand(Run.PREPARE, 2);
        run.dropAll();
        run.x.tick(3);
        run.aboutIs("0 LEADS", 0, 2, 8);
        run.aboutIs("1 LEADS", 1, 2, 9);
        run.aboutIs("2 LEADS", 2, 2, 18);
        run.dropAll();
        run.x.tick(3);
        return run;
    }

    private static void rejectTellsAndStepsDown() {
        Run run = threeRivals();
        run.hand(Run.HEART, 2);
        run.wireIs("2 rejects the HEART of 0", "6:0>1(8,0) 1:0>1(8,0) 1:0>2(8,0) 6:1>0(9,0) 1:1>0(9,0) 6:1>2(9,0)"
            + " 1:1>2(9,0) 6:2>0(18,0) 1:2>0(18,0) 6:2>1(18,0) 1:2>1(18,0) 3:2>0(18,0)");
        run.aboutIs("and LEADS", 2, 1, 1);
        run.aboutIs("and is its own LEADER", 2, 7, 2);
        run.x.copy(11);
        run.x.deliver(11);
        run.aboutIs("0 steps down", 0, 1, 0);
        run.aboutIs("its BALLOT stays", 0, 2, 8);
        run.aboutIs("LEADER stays", 0, 7, 0);
        run.aboutIs("its TIMER", 0, 8, 8);
        run.aboutIs("REJECT is no PROMISE", 0, 3, 8);
        run.aboutIs("no GRANTS", 0, 10, 0);
        int reject = run.find(Run.REJECT, 0);
        run.x.copy(reject);
        for (int k = reject; k > 0; k--) {
            run.x.drop(0);
        }
        run.x.tick(8);
        run.aboutIs("a round above what it was told", 0, 2, 24);
        run.hand(Run.REJECT, 0);
        run.aboutIs("a lesser REJECT leaves it leading", 0, 1, 1);
        run.x.fall(0);
        run.x.rise(0);
        run.dropAll();
        run.x.tick(8);
        run.aboutIs("a round above PROMISED", 0, 2, 32);

        Run forgetful = threeRivals();
        forgetful.hand(Run.HEART, 2);
        forgetful.hand(Run.REJECT, 0);
        forgetful.x.fall(0);
        forgetful.x.rise(0);
        forgetful.dropAll();
        forgetful.x.tick(8);
        forgetful.aboutIs("what it was told is gone", 0, 2, 16);
    }

    private static void heartStepsDownButDoesNotPromise() {
        Run run = threeRivals();
        for (int i = 0; i < 8; i++) {
            run.x.drop(0);
        }
        run.wireIs("those of 2", "6:2>0(18,0) 1:2>0(18,0) 6:2>1(18,0) 1:2>1(18,0)");
        run.hand(Run.HEART, 0);
        run.aboutIs("0 steps down", 0, 1, 0);
        run.aboutIs("LEADER", 0, 7, 2);
        run.aboutIs("TIMER", 0, 8, 8);
        run.aboutIs("PROMISED stays", 0, 3, 8);
        run.hand(Run.PREPARE, 1);
        run.aboutIs("PREPARE makes 1 step down", 1, 1, 0);
        run.aboutIs("its LEADER stays", 1, 7, 1);
        run.aboutIs("its BALLOT stays", 1, 2, 9);
        run.aboutIs("its TIMER", 1, 8, 11);
        run.aboutIs("it PROMISED", 1, 3, 18);
        run.wireIs("and says so", "1:2>0(18,0) 6:2>1(18,0) 2:1>2(18,0)");
        run.hand(Run.PROMISE, 2);
        run.aboutIs("GRANTS", 2, 10, 6);
    }

    private static void acceptOfAnOldBallot() {
        Run run = Run.ledBy0(7);
        run.x.ask(0, 0, 1, Run.ADD, 1, 0);
        run.x.copy(1);
        run.x.copy(1);
        run.hand(Run.ACCEPT, 2);
        run.hand(Run.ACCEPTED, 0);
        run.x.tick(3);
        run.hand(Run.PREPARE, 2);
        run.aboutIs("1 LEADS with 17, 2 promised it", 2, 3, 17);
        int before = run.x.about(2, 8);
        run.hand(Run.ACCEPT, 2);
        Check.due("REJECT", run.x.message(run.x.count(0) - 1, 0), Run.REJECT);
        Check.due("of 17", run.x.message(run.x.count(0) - 1, 3), 17);
        run.aboutIs("nothing more", 2, 8, before);
        int promise = run.find(Run.PROMISE, 1);
        run.x.copy(promise);
        run.hand(Run.PROMISE, 1);
        run.hand(Run.CHOSEN, 1);
        run.aboutIs("1 has applied SLOT 1", 1, 4, 1);
        run.aboutIs("GRANTS", 1, 10, 6);
        run.hand(Run.PROMISE, 1);
        run.aboutIs("a second PROMISE is as the first", 1, 10, 6);
    }

    /** 0 proposes PUT of 5 in SLOT 1 with BALLOT 8, only 1 hears of it, 0 falls. */
    private static Run halfAccepted(int members) {
        Run run = Run.ledBy0(members);
        run.x.ask(0, 0, 1, Run.PUT, 5, 0);
        run.hand(Run.ACCEPT, 1);
        run.dropAll();
        run.x.fall(0);
        return run;
    }

    private static void bestIsProposedAgain() {
        Run run = halfAccepted(7);
        run.x.tick(6);
        run.wireIs("2 LEADS", "1:2>0(18,0) 1:2>1(18,0)");
        run.hand(Run.PREPARE, 1);
        Check.due("one ACCEPTED", run.x.message(1, 5), 1);
        run.hand(Run.PROMISE, 2);
        run.wireIs("SLOT 1 is proposed again", "1:2>0(18,0) 4:2>0(18,1) 4:2>1(18,1)");
        Check.due("it is among PROPOSALS", run.x.ask(2, 0, 1, Run.PUT, 5, 0), -3);
        run.settle();
        Check.due("it is chosen", run.x.number(2, 0), 5);
        Check.due("it is chosen", run.x.number(1, 0), 5);
        Check.due("0 is not LIVE", run.x.number(0, 0), Run.NONE);
    }

    private static void bestOfTheGreaterBallot(boolean oldFirst) {
        Run run = halfAccepted(31);
        run.x.tick(6);
        run.hand(Run.PREPARE, 3);
        run.hand(Run.PREPARE, 4);
        run.hand(Run.PROMISE, 2);
        run.hand(Run.PROMISE, 2);
        Check.due("2 LEADS", run.x.ask(2, 1, 1, Run.PUT, 6, 0), 0);
        run.hand(Run.ACCEPT, 3);
        run.dropAll();
        run.x.fall(2);
        run.x.tick(5);
        run.dropAll();
        run.x.tick(1);
        run.aboutIs("4 LEADS", 4, 2, 28);
        run.hand(Run.PREPARE, oldFirst ? 1 : 3);
        run.hand(Run.PREPARE, oldFirst ? 3 : 1);
        run.hand(Run.PROMISE, 4);
        run.hand(Run.PROMISE, 4);
        run.settle();
        Check.due("that of BALLOT 18", run.x.number(4, 0), 6);
        Check.due("that of BALLOT 18", run.x.known(1, 1, 1), 1);
    }

    private static void nothingFillsAGap() {
        Run run = Run.ledBy0(7);
        run.x.ask(0, 0, 1, Run.PUT, 5, 0);
        run.x.ask(0, 0, 2, Run.PUT, 6, 0);
        run.x.deliver(2);
        run.dropAll();
        run.x.fall(0);
        run.x.tick(6);
        run.hand(Run.PREPARE, 1);
        run.hand(Run.PROMISE, 2);
        run.wireIs("SLOTS 1 and 2", "1:2>0(18,0) 4:2>0(18,1) 4:2>1(18,1) 4:2>0(18,2) 4:2>1(18,2)");
        run.settle();
        for (int what = 0; what < 6; what++) {
            Check.due("NOTHING in SLOT 1", run.x.known(1, 1, what), 0);
        }
        Check.due("SLOT 2", run.x.known(1, 2, 4), 6);
        run.aboutIs("A", 2, 4, 2);
        Check.due("seq 2 counted", run.x.answer(2, 0, 0), 2);
        Check.due("NOTHING counts for no client", run.x.answer(2, 0, 1), Run.NONE);
    }

    private static void ownAcceptedAreBest() {
        Run run = halfAccepted(7);
        run.x.tick(5);
        run.x.fall(2);
        run.x.rise(2);
        run.x.tick(6);
        run.wireIs("1 LEADS", "1:1>0(17,0) 1:1>2(17,0)");
        run.hand(Run.PREPARE, 2);
        run.hand(Run.PROMISE, 1);
        run.wireIs("what it ACCEPTED itself", "1:1>0(17,0) 4:1>0(17,1) 4:1>2(17,1)");
        run.settle();
        Check.due("it is chosen", run.x.number(1, 0), 5);
    }

    private static void reachOf32() {
        Run run = Run.ledBy0(7);
        run.chooseWith1(1, 31);
        run.x.ask(0, 0, 32, Run.ADD, 1, 0);
        run.x.ask(0, 0, 33, Run.ADD, 1, 0);
        run.hand(Run.ACCEPT, 2);
        run.aboutIs("SLOT 32 is ACCEPTED", 2, 12, 1);
        run.wireIs("SLOT 32 is ACCEPTED", "4:0>1(8,32) 4:0>1(8,33) 4:0>2(8,33) 5:2>0(8,32)");
        run.hand(Run.ACCEPT, 2);
        run.aboutIs("SLOT 33 is not", 2, 12, 1);
        run.wireIs("SLOT 33 is not", "4:0>1(8,32) 4:0>1(8,33) 5:2>0(8,32) 7:2>0(0,1)");
        run.x.drop(3);
        run.hand(Run.ACCEPT, 1);
        run.hand(Run.ACCEPT, 1);
        for (int i = 0; i < 3; i++) {
            run.hand(Run.ACCEPTED, 0);
        }
        run.hand(Run.CHOSEN, 2);
        run.hand(Run.CHOSEN, 2);
        Check.due("SLOT 32 is KNOWN", run.x.known(2, 32, 2), 32);
        Check.isThrown("SLOT 33 is not", () -> run.x.known(2, 33, 2), Check.NO_ELEMENT);
        run.aboutIs("and nothing is applied", 2, 4, 0);
    }

    private static void wantBringsEight() {
        Run run = Run.ledBy0(7);
        run.chooseWith1(1, 10);
        run.x.tick(3);
        run.hand(Run.HEART, 1);
        Check.due("1 wants nothing", run.find(Run.WANT, 0), -1);
        run.hand(Run.HEART, 2);
        run.wireIs("2 wants SLOT 1 and more", "7:2>0(0,1)");
        run.hand(Run.WANT, 0);
        run.wireIs("eight", "8:0>2(0,1) 8:0>2(0,2) 8:0>2(0,3) 8:0>2(0,4) 8:0>2(0,5) 8:0>2(0,6) 8:0>2(0,7) 8:0>2(0,8)");
        run.x.deliver(3);
        run.aboutIs("SLOT 4 waits", 2, 4, 0);
        run.settle();
        run.aboutIs("A of 2", 2, 4, 8);
        run.x.tick(3);
        run.hand(Run.HEART, 1);
        run.hand(Run.HEART, 2);
        run.hand(Run.WANT, 0);
        run.wireIs("the other two", "8:0>2(0,9) 8:0>2(0,10)");
        run.settle();
        Check.due("2 is as far as 0", run.x.number(2, 0), 10);
    }

    private static void wantBringsASnapshot() {
        Run run = Run.ledBy0(7);
        run.chooseWith1(1, 16);
        run.aboutIs("BASE", 0, 5, 0);
        run.x.tick(3);
        run.hand(Run.HEART, 2);
        int want = run.find(Run.WANT, 0);
        run.x.copy(want);
        run.hand(Run.WANT, 0);
        Check.due("CHOSEN of SLOT 1", run.x.message(run.find(Run.CHOSEN, 2), 4), 1);
        chooseOneMore(run, 17);
        run.aboutIs("BASE", 0, 5, 1);
        run.x.tick(3);
        run.hand(Run.HEART, 2);
        run.hand(Run.WANT, 0);
        int snapshot = run.find(Run.SNAPSHOT, 2);
        Check.due("SNAPSHOT of 17", run.x.message(snapshot, 4), 17);
        run.x.copy(snapshot);
        run.x.ask(0, 0, 18, Run.ADD, 1, 0);
        run.hand(Run.ACCEPT, 1);
        run.hand(Run.ACCEPTED, 0);
        run.aboutIs("0 is further by now", 0, 4, 18);
        run.hand(Run.SNAPSHOT, 2);
        run.aboutIs("A", 2, 4, 17);
        run.aboutIs("BASE", 2, 5, 17);
        Check.due("the number", run.x.number(2, 0), 17);
        Check.due("the client's seq", run.x.answer(2, 0, 0), 17);
        Check.due("its RESULT", run.x.answer(2, 0, 1), 17);
        Check.isThrown("SLOT 17 is not KNOWN", () -> run.x.known(2, 17, 0), Check.NO_ELEMENT);
        for (int seq = 18; seq <= 20; seq++) {
            run.x.ask(0, 0, seq, Run.ADD, 1, 0);
            run.settleBut(Run.SNAPSHOT);
        }
        run.aboutIs("2 follows", 2, 4, 20);
        for (int seq = 21; seq <= 36; seq++) {
            run.x.ask(0, 0, seq, Run.ADD, 1, 0);
            run.settleBut(Run.SNAPSHOT);
        }
        run.aboutIs("BASE is A - 16 where that is greater", 2, 5, 20);
        run.hand(Run.SNAPSHOT, 2);
        run.aboutIs("a SNAPSHOT that is not above A changes nothing", 2, 4, 36);
        run.aboutIs("a SNAPSHOT that is not above A changes nothing", 2, 5, 20);
        Check.due("the number", run.x.number(2, 0), 36);
    }

    private static void chooseOneMore(Run run, int seq) {
        run.dropAll();
        run.chooseWith1(seq, seq);
    }

    private static void snapshotAndWhatIsKnownAbove() {
        Run run = Run.ledBy0(7);
        run.chooseWith1(1, 18);
        run.x.ask(0, 1, 1, Run.MEMBERS, 5, 0);
        run.hand(Run.ACCEPT, 1);
        run.hand(Run.ACCEPTED, 0);
        run.hand(Run.ACCEPT, 2);
        run.aboutIs("SLOT 19 is ACCEPTED", 2, 12, 1);
        run.dropAll();
        run.x.tick(3);
        run.hand(Run.HEART, 2);
        run.hand(Run.WANT, 0);
        run.x.ask(0, 0, 20, Run.ADD, 1, 0);
        run.hand(Run.ACCEPT, 1);
        run.hand(Run.ACCEPTED, 0);
        run.hand(Run.CHOSEN, 2);
        run.aboutIs("SLOT 20 waits", 2, 4, 0);
        run.hand(Run.SNAPSHOT, 2);
        run.aboutIs("SLOT 20 is applied", 2, 4, 20);
        run.aboutIs("BASE", 2, 5, 19);
        run.aboutIs("no ACCEPTED", 2, 12, 0);
        run.aboutIs("both pairs", 2, 13, 2);
        Check.due("SLOT 20 is KNOWN", run.x.known(2, 20, 2), 20);
        Check.due("the number", run.x.number(2, 0), 19);
        Check.due("RESULT of MEMBERS", run.x.answer(2, 1, 1), 5);
    }

    private static void promiseOfOneThatIsAhead() {
        Run run = Run.ledBy0(7);
        run.chooseWith1(1, 2);
        run.x.fall(0);
        run.x.tick(6);
        run.hand(Run.PREPARE, 1);
        Check.due("PROMISE tells A", run.x.message(1, 4), 2);
        run.hand(Run.PROMISE, 2);
        run.wireIs("2 wants", "1:2>0(18,0) 7:2>1(0,1)");
        run.aboutIs("it is no GRANT", 2, 10, 4);
        run.hand(Run.WANT, 1);
        run.hand(Run.CHOSEN, 2);
        run.hand(Run.CHOSEN, 2);
        run.aboutIs("A", 2, 4, 2);
        run.dropAll();
        run.x.tick(3);
        run.wireIs("and asks again", "6:2>0(18,2) 1:2>0(18,0) 6:2>1(18,2) 1:2>1(18,0)");
        run.hand(Run.PREPARE, 1);
        run.hand(Run.PROMISE, 2);
        run.aboutIs("now it is one", 2, 10, 6);
    }

    private static void acceptedIsForgotten() {
        Run run = Run.ledBy0(7);
        run.x.ask(0, 0, 1, Run.ADD, 1, 0);
        run.x.copy(0);
        run.hand(Run.ACCEPT, 1);
        run.hand(Run.ACCEPTED, 0);
        run.aboutIs("SLOT 1 is ACCEPTED", 1, 12, 1);
        run.hand(Run.CHOSEN, 1);
        run.aboutIs("and forgotten", 1, 12, 0);
        run.hand(Run.ACCEPT, 1);
        run.aboutIs("it is not ACCEPTED again", 1, 12, 0);
        Check.due("but it is said", run.x.message(run.x.count(0) - 1, 0), Run.ACCEPTED);
        run.hand(Run.CHOSEN, 2);
        run.aboutIs("A", 2, 4, 1);
    }

    private static void oneRequestInTwoSlots() {
        Run run = Run.ledBy0(31);
        run.x.ask(0, 1, 1, Run.PUT, 100, 0);
        run.x.ask(0, 0, 1, Run.ADD, 1, 0);
        Check.due("SLOT 2 to 1", run.x.message(4, 2) * 10 + run.x.message(4, 4), 12);
        run.x.deliver(4);
        run.dropAll();
        run.x.fall(0);
        run.x.tick(6);
        run.hand(Run.PREPARE, 3);
        run.hand(Run.PREPARE, 4);
        run.hand(Run.PROMISE, 2);
        run.hand(Run.PROMISE, 2);
        Check.due("2 is asked for the same", run.x.ask(2, 0, 1, Run.ADD, 1, 0), 0);
        run.settle();
        run.aboutIs("it is in SLOTS 1 and 2", 2, 4, 2);
        Check.due("SLOT 1", run.x.known(2, 1, 2), 1);
        Check.due("SLOT 2", run.x.known(2, 2, 2), 1);
        Check.due("SLOT 2", run.x.known(2, 2, 0), Run.ADD);
        Check.due("it counts once", run.x.number(2, 0), 1);
        Check.due("it counts once", run.x.answer(3, 0, 1), 1);
    }

    /** 0 LEADS with 8 and a PROPOSAL; 2 with 18, and 0 has not heard of that. */
    private static Run twoLeaders() {
        Run run = Run.ledBy0(7);
        run.x.ask(0, 0, 1, Run.PUT, 5, 0);
        run.hand(Run.ACCEPT, 1);
        run.x.drop(run.find(Run.ACCEPT, 2));
        run.x.tick(6);
        run.aboutIs("0 LEADS", 0, 1, 1);
        run.aboutIs("2 LEADS", 2, 2, 18);
        for (int k = run.x.count(0) - 1; k >= 0; k--) {
            if (run.x.message(k, 3) != 18 && run.x.message(k, 0) != Run.ACCEPTED) {
                run.x.drop(k);
            }
        }
        run.wireIs("ACCEPTED of 1, PREPARES of 2", "5:1>0(8,1) 1:2>0(18,0) 1:2>1(18,0)");
        run.hand(Run.PREPARE, 1);
        run.hand(Run.PROMISE, 2);
        return run;
    }

    private static void proposalChosenByAnother() {
        Run run = twoLeaders();
        run.hand(Run.ACCEPT, 1);
        run.hand(Run.ACCEPTED, 2);
        run.hand(Run.CHOSEN, 0);
        run.aboutIs("0 LEADS", 0, 1, 1);
        run.aboutIs("what it proposed is applied", 0, 4, 1);
        run.aboutIs("no PROPOSAL is left", 0, 11, 0);
        run.aboutIs("nothing is ACCEPTED", 0, 12, 0);
        int sent = run.x.count(1);
        run.hand(Run.ACCEPTED, 0);
        Check.due("ACCEPTED for no PROPOSAL", run.x.count(1), sent);
    }

    private static void oneOfPeersComesBack() {
        Run run = Run.ledBy0(3);
        run.x.ask(0, 0, 1, Run.MEMBERS, 1, 0);
        run.settle();
        for (int seq = 2; seq <= 4; seq++) {
            run.x.ask(0, 0, seq, Run.ADD, 1, 0);
            run.settle();
        }
        run.x.ask(0, 0, 5, Run.ADD, 1, 0);
        run.wireIs("0 is alone", "");
        run.x.ask(0, 0, 6, Run.MEMBERS, 7, 0);
        run.wireIs("1 is in GRANTS", "1:0>2(8,0)");
    }

    private static void acceptWithoutPrepare() {
        Run run = twoLeaders();
        run.x.drop(run.find(Run.PREPARE, 0));
        run.hand(Run.ACCEPT, 0);
        run.aboutIs("0 steps down", 0, 1, 0);
        run.aboutIs("it PROMISED", 0, 3, 18);
        run.aboutIs("LEADER", 0, 7, 2);
        run.aboutIs("TIMER", 0, 8, 8);
        run.aboutIs("its BALLOT stays", 0, 2, 8);
        Check.due("ACCEPTED", run.x.message(run.x.count(0) - 1, 0), Run.ACCEPTED);
    }

    private static void whatIsOnItsWayStaysAsItWas() {
        Run run = new Run(7);
        run.x.tick(8);
        run.x.copy(0);
        run.hand(Run.PREPARE, 2);
        run.hand(Run.PROMISE, 0);
        run.hand(Run.PREPARE, 1);
        run.x.ask(0, 0, 1, Run.PUT, 5, 0);
        run.hand(Run.ACCEPT, 1);
        run.hand(Run.PREPARE, 1);
        int first = run.find(Run.PROMISE, 0);
        Check.due("the first PROMISE has no ACCEPTED", run.x.message(first, 5), 0);
        Check.due("the second one has", run.x.message(run.x.count(0) - 1, 5), 1);
    }

    private static void messagesOfAnEarlierBallot() {
        Run run = Run.ledBy0(7);
        run.x.ask(0, 0, 1, Run.PUT, 5, 0);
        run.x.copy(0);
        run.hand(Run.ACCEPT, 1);
        run.x.tick(3);
        run.x.fall(0);
        run.x.rise(0);
        run.x.fall(1);
        run.x.rise(1);
        run.hand(Run.HEART, 2);
        run.x.tick(8);
        run.aboutIs("0 LEADS again", 0, 2, 16);
        int prepare = run.x.count(0) - 2;
        Check.due("PREPARE of 16", run.x.message(prepare, 3), 16);
        run.x.deliver(prepare);
        run.x.deliver(run.find(Run.ACCEPT, 1));
        int reject = run.x.count(0) - 1;
        Check.due("REJECT", run.x.message(reject, 0), Run.REJECT);
        Check.due("of 16", run.x.message(reject, 3), 16);
        run.x.deliver(reject);
        run.aboutIs("its own BALLOT is not below it", 0, 1, 1);
        run.hand(Run.PROMISE, 0);
        run.aboutIs("GRANTS", 0, 10, 3);
        run.aboutIs("SLOT 1 is proposed again", 0, 11, 1);
        Check.due("an old ACCEPTED", run.x.message(run.find(Run.ACCEPTED, 0), 3), 8);
        run.hand(Run.ACCEPTED, 0);
        run.aboutIs("an old ACCEPTED is none of ACKS", 0, 4, 0);
        run.aboutIs("an old ACCEPTED is none of ACKS", 0, 11, 1);

        Run old = new Run(7);
        old.x.tick(8);
        old.hand(Run.PREPARE, 1);
        old.x.fall(0);
        old.x.rise(0);
        old.x.tick(8);
        old.hand(Run.PROMISE, 0);
        old.aboutIs("a PROMISE of 8 is no GRANT for 16", 0, 10, 1);
    }

    private static void acceptedAfterSteppingDown() {
        Run run = twoLeaders();
        run.hand(Run.PREPARE, 0);
        run.aboutIs("0 steps down", 0, 1, 0);
        int sent = run.x.count(1);
        run.hand(Run.ACCEPTED, 0);
        Check.due("nothing is chosen", run.x.count(1), sent);
        run.aboutIs("nothing is chosen", 0, 4, 0);
    }

    private static void lesserRejectTellsNothing() {
        Run run = threeRivals();
        run.hand(Run.HEART, 1);
        run.hand(Run.HEART, 2);
        run.x.deliver(run.x.count(0) - 1);
        run.x.deliver(run.x.count(0) - 1);
        run.aboutIs("0 steps down", 0, 1, 0);
        run.dropAll();
        run.x.tick(8);
        run.aboutIs("a round above 18, though 9 was told last", 0, 2, 24);
    }
}
