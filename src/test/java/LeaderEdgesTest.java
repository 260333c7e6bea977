/** "Terms", LEADING, WORK, CHOSEN, TICK: each sentence that names a boundary case has a test of its own. */
public final class LeaderEdgesTest {
    private LeaderEdgesTest() { }

    public static void main(String[] args) {
        leading();
        work();
        chosen();
        tick();
        Check.finish();
    }

    private static void leading() {
        Check.sentence("8 * (r + 1) + its number, r of PROMISED", LeaderEdgesTest::roundOfTheGreatestBallot);
        Check.sentence("those it was told of in REJECT since it is LIVE", LeaderEdgesTest::toldWhileLive);
        Check.sentence("GRANTS, PROPOSALS, QUEUE are empty", LeaderEdgesTest::leadingBeginsEmpty);
        Check.sentence("BEST is empty", LeaderEdgesTest::leadingBeginsWithoutBest);
        Check.sentence("LEADER is it, TIMER 3", LeaderEdgesTest::leaderAndTimer);
        Check.sentence("its own ACCEPTED are looked at as those of a PROMISE", LeaderEdgesTest::ownAccepted);
        Check.sentence("then PREPARE to all PEERS; then WORK", LeaderEdgesTest::prepareThenWork);
        Check.sentence("STEPS DOWN: TIMER is 8 + 3 * its number; BALLOT and LEADER stay", LeaderEdgesTest::stepsDown);
    }

    private static void work() {
        Check.sentence("t from A + 1 to A + 4", LeaderEdgesTest::windowOfFour);
        Check.sentence("if t has no PROPOSAL", LeaderEdgesTest::workSkipsProposals);
        Check.sentence("and is not KNOWN", LeaderEdgesTest::workSkipsWhatIsKnown);
        Check.sentence("its VALUE is BEST's, if there is one", LeaderEdgesTest::bestOf32);
        Check.sentence("else NOTHING, if BEST has a greater SLOT", LeaderEdgesTest::nothingBeforeBest);
        Check.sentence("else NOTHING, however many SLOTS there were", LeaderEdgesTest::nothingInLaterSlots);
        Check.sentence("else the first of the QUEUE, which goes out of it", LeaderEdgesTest::queueBehindBest);
        Check.sentence("else WORK is over", LeaderEdgesTest::emptyQueue);
        Check.sentence("if the NODE is in CONFIG(t), it ACCEPTS it itself", LeaderEdgesTest::leaderThatIsNoMember);
        Check.sentence("ACCEPT to all others of CONFIG(t), from 0 on", LeaderEdgesTest::acceptInOrder);
        Check.sentence("then, if ACKS have a MAJORITY of CONFIG(t), it is CHOSEN", LeaderEdgesTest::chosenByItself);
        Check.sentence("for want of GRANTS ends this turn, too", LeaderEdgesTest::wantOfGrants);
    }

    private static void chosen() {
        Check.sentence("CHOSEN (t, VALUE) to all PEERS", LeaderEdgesTest::chosenToPeers);
        Check.sentence("LEARNING; the PROPOSAL goes", LeaderEdgesTest::proposalOfAKnownSlot);
        Check.sentence("PROPOSALS and BEST not above A go", LeaderEdgesTest::proposalsGo);
        Check.sentence("PREPARE to all PEERS that are not in GRANTS", LeaderEdgesTest::grantedPeersComeBack);
        Check.sentence("and were not PEERS before", LeaderEdgesTest::prepareToNewPeers);
        Check.sentence("whenever A of a NODE that LEADS becomes greater", LeaderEdgesTest::leaderTakesASnapshot);
        Check.sentence("of a NODE that LEADS, not of another", LeaderEdgesTest::followersDoNotPrepare);
        Check.sentence("then WORK", LeaderEdgesTest::workWhenAIsGreater);
        Check.sentence("whenever A becomes greater, not before", LeaderEdgesTest::knownWhileAStays);
    }

    private static void tick() {
        Check.sentence("TICK, for each LIVE NODE, from 0 on", LeaderEdgesTest::tickOfThoseThatAreLive);
        Check.sentence("TIMER is 1 less; at 0: if it LEADS: TIMER 3", LeaderEdgesTest::beatEveryThreeTicks);
        Check.sentence("HEART (BALLOT, A), then, if it is not in GRANTS, PREPARE", LeaderEdgesTest::heartAndPrepare);
        Check.sentence("for each PROPOSAL, by SLOTS, ACCEPT", LeaderEdgesTest::acceptAgain);
        Check.sentence("to all of CONFIG(t) that are not in ACKS, but itself", LeaderEdgesTest::acceptAgainButItself);
        Check.sentence("else TIMER is 8 + 3 * its number", LeaderEdgesTest::timerOfTheOthers);
        Check.sentence("if it is in CONFIG(A + 1), it begins to LEAD", LeaderEdgesTest::memberOfTheNextSlot);
        Check.sentence("if it is in CONFIG(A + 1) no more, it does not", LeaderEdgesTest::memberNoMore);
    }

    // LEADING

    private static void roundOfTheGreatestBallot() {
        Run run = new Run(65);
        run.x.fall(0);
        run.x.tick(26);
        run.aboutIs("6 LEADS", 6, 2, 14);
        run.x.rise(0);
        run.hand(Run.PREPARE, 0);
        run.x.tick(8);
        run.aboutIs("a round above 14, which 0 PROMISED", 0, 2, 16);
        run.hand(Run.PREPARE, 0);
        run.x.drop(run.find(Run.REJECT, 6));
        run.hand(Run.PREPARE, 6);
        run.aboutIs("6 PROMISED 16", 6, 3, 16);
        run.aboutIs("its BALLOT stays", 6, 2, 14);
        run.x.fall(0);
        run.dropAll();
        run.x.tick(26);
        run.aboutIs("a round above 16", 6, 2, 30);
        run.x.fall(6);
        run.x.rise(6);
        run.x.tick(26);
        run.aboutIs("a round above 30, which it PROMISED", 6, 2, 38);
    }

    private static void toldWhileLive() {
        Run told = Run.rivals();
        told.hand(Run.PREPARE, 2);
        told.hand(Run.REJECT, 0);
        told.dropAll();
        told.x.tick(8);
        told.aboutIs("a round above 18, which 0 was told", 0, 2, 24);
        Run fell = Run.rivals();
        fell.hand(Run.PREPARE, 2);
        fell.hand(Run.REJECT, 0);
        fell.x.fall(0);
        fell.x.rise(0);
        fell.dropAll();
        fell.x.tick(8);
        fell.aboutIs("a round above 8: what it was told is gone", 0, 2, 16);
        Run before = Run.rivals();
        before.hand(Run.PREPARE, 2);
        before.x.fall(0);
        before.hand(Run.REJECT, 0);
        before.x.rise(0);
        before.dropAll();
        before.x.tick(8);
        before.aboutIs("it was not LIVE when it was told", 0, 2, 16);
        Run idle = Run.rivals();
        idle.hand(Run.PREPARE, 2);
        idle.x.fall(0);
        idle.x.rise(0);
        idle.hand(Run.REJECT, 0);
        idle.dropAll();
        idle.x.tick(8);
        idle.aboutIs("it did not LEAD, but it was told", 0, 2, 24);
    }

    private static void leadingBeginsEmpty() {
        Run run = Run.queueOf(2);
        run.dropAll();
        run.x.tick(3);
        run.hand(Run.PREPARE, 0);
        run.aboutIs("0 stepped down", 0, 1, 0);
        run.dropAll();
        run.x.fall(1);
        run.x.tick(8);
        int[] due = {1, 1, 24, 24, 0, 0, 7, 0, 3, 0, 1, 0, 4, 1};
        for (int what = 0; what < 14; what++) {
            run.aboutIs("0 LEADS anew", 0, what, due[what]);
        }
        Check.due("it needs GRANTS anew", run.x.ask(0, 0, 5, Run.ADD, 1, 0), -1);
        run.hand(Run.PREPARE, 2);
        run.hand(Run.PROMISE, 0);
        run.aboutIs("what it ACCEPTED is proposed", 0, 11, 4);
        Check.due("seq 5 is not in the QUEUE any more", run.x.ask(0, 0, 5, Run.ADD, 1, 0), 0);
        run.settle();
        Check.due("each counted once", run.x.number(2, 0), 5);
    }

    /** 2 had heard of a VALUE for SLOT 1 and has it no more when it LEADS again without proposing it. */
    private static void leadingBeginsWithoutBest() {
        Run run = new Run(31);
        run.x.tick(8);
        for (int node : new int[] {1, 3}) {
            run.hand(Run.PREPARE, node);
            run.hand(Run.PROMISE, 0);
        }
        run.dropAll();
        run.x.ask(0, 0, 1, Run.PUT, 5, 0);
        run.hand(Run.ACCEPT, 1);
        run.dropAll();
        run.x.fall(0);
        run.x.tick(6);
        run.aboutIs("2 LEADS", 2, 2, 10);
        run.hand(Run.PREPARE, 1);
        run.aboutIs("1 PROMISED 10", 1, 3, 10);
        run.hand(Run.PROMISE, 2);
        run.aboutIs("GRANTS of 1 and 2 are no MAJORITY", 2, 11, 0);
        run.dropAll();
        run.x.tick(3);
        run.aboutIs("3 LEADS", 3, 2, 19);
        run.hand(Run.PREPARE, 2);
        run.aboutIs("2 stepped down", 2, 1, 0);
        run.dropAll();
        run.x.fall(3);
        run.x.rise(3);
        run.x.fall(1);
        run.x.fall(4);
        run.x.rise(4);
        run.x.tick(14);
        run.aboutIs("2 LEADS anew", 2, 2, 26);
        run.hand(Run.PREPARE, 3);
        run.hand(Run.PREPARE, 4);
        run.hand(Run.PROMISE, 2);
        run.hand(Run.PROMISE, 2);
        run.aboutIs("3 and 4 know of nothing", 2, 11, 0);
        run.aboutIs("GRANTS", 2, 10, 28);
    }

    private static void leaderAndTimer() {
        Run run = Run.ledBy0(7);
        run.chooseWith1(1, 1);
        run.aboutIs("1 follows 0", 1, 7, 0);
        run.x.fall(0);
        run.x.tick(10);
        run.aboutIs("1 follows 0 still", 1, 7, 0);
        run.aboutIs("TIMER", 1, 8, 1);
        run.x.tick(1);
        run.aboutIs("1 is its own LEADER", 1, 7, 1);
        run.aboutIs("TIMER", 1, 8, 3);
    }

    private static void ownAccepted() {
        Run run = Run.ledBy0(3);
        run.x.ask(0, 1, 1, Run.MEMBERS, 2, 0);
        run.chooseWhatIsAsked();
        run.chooseWith1(1, 3);
        Check.due("1 alone is a member of SLOT 5, and it granted", run.x.ask(0, 0, 4, Run.ADD, 1, 0), 0);
        run.hand(Run.ACCEPT, 1);
        run.dropAll();
        run.x.fall(0);
        run.aboutIs("1 ACCEPTED SLOT 5", 1, 12, 1);
        run.aboutIs("and has not heard that it is chosen", 1, 4, 4);
        run.x.tick(11);
        run.aboutIs("1 LEADS: SLOT 5 is chosen at once", 1, 4, 5);
        Check.due("what it ACCEPTED counts", run.x.number(1, 0), 4);
    }

    private static void prepareThenWork() {
        Run run = Run.ledBy0(1);
        run.chooseAlone(1, 1);
        run.x.ask(0, 1, 1, Run.MEMBERS, 3, 0);
        run.x.fall(0);
        run.x.rise(0);
        run.dropAll();
        run.x.tick(8);
        run.wireIs("1 is one of PEERS", "1:0>1(16,0)");
        Check.due("SLOT 3 has 0 alone", run.x.ask(0, 0, 2, Run.ADD, 1, 0), 0);
        run.wireIs("PREPARE, then CHOSEN", "1:0>1(16,0) 8:0>1(0,3)");
    }

    private static void stepsDown() {
        int[] due = {1, 0, 8, 8, 0, 0, 7, 0, 8, 0, 0, 0, 0, 1};
        Run reject = Run.rivals();
        reject.hand(Run.PREPARE, 2);
        reject.x.tick(1);
        reject.hand(Run.REJECT, 0);
        for (int what = 0; what < 14; what++) {
            reject.aboutIs("0 stepped down", 0, what, due[what]);
        }
        Run prepare = Run.rivals();
        prepare.hand(Run.PREPARE, 0);
        for (int what = 0; what < 14; what++) {
            prepare.aboutIs("0 stepped down", 0, what, what == 3 ? 18 : due[what]);
        }
        prepare.dropAll();
        prepare.x.tick(7);
        prepare.aboutIs("its TIMER runs", 0, 8, 1);
        prepare.x.tick(1);
        prepare.aboutIs("it LEADS again", 0, 2, 24);
    }

    // WORK

    private static void windowOfFour() {
        Run run = Run.queueOf(1);
        run.wireIs("SLOTS 1 .. 4", "4:0>1(8,1) 4:0>2(8,1) 4:0>1(8,2) 4:0>2(8,2) 4:0>1(8,3) 4:0>2(8,3)"
            + " 4:0>1(8,4) 4:0>2(8,4)");
        run.x.deliver(2);
        run.hand(Run.ACCEPTED, 0);
        run.aboutIs("SLOT 2 is chosen, but A is 0", 0, 11, 3);
        run.aboutIs("SLOT 5 is not proposed", 0, 9, 1);
        run.x.deliver(0);
        run.hand(Run.ACCEPTED, 0);
        run.aboutIs("A", 0, 4, 2);
        run.aboutIs("SLOT 5 is proposed", 0, 9, 0);
        run.aboutIs("SLOTS 3, 4 and 5", 0, 11, 3);
        Check.due("SLOT 6 is in the window", run.x.ask(0, 0, 6, Run.ADD, 1, 0), 0);
        run.aboutIs("it is proposed", 0, 11, 4);
        Check.due("SLOT 7 is not", run.x.ask(0, 0, 7, Run.ADD, 1, 0), 0);
        run.aboutIs("it waits", 0, 9, 1);
    }

    private static void workSkipsProposals() {
        Run run = new Run(7);
        run.x.tick(8);
        run.hand(Run.PREPARE, 1);
        run.hand(Run.PREPARE, 2);
        run.x.copy(0);
        run.hand(Run.PROMISE, 0);
        run.x.ask(0, 0, 1, Run.ADD, 1, 0);
        int sent = run.x.count(1);
        run.hand(Run.PROMISE, 0);
        run.hand(Run.PROMISE, 0);
        run.aboutIs("GRANTS", 0, 10, 7);
        Check.due("nothing is proposed twice", run.x.count(1), sent);
        run.aboutIs("PROPOSALS", 0, 11, 1);
    }

    private static void workSkipsWhatIsKnown() {
        Run run = Run.ledBy0(7);
        run.x.ask(0, 0, 1, Run.ADD, 1, 0);
        run.x.ask(0, 0, 2, Run.ADD, 1, 0);
        run.hand(Run.ACCEPT, 1);
        run.hand(Run.ACCEPT, 1);
        run.hand(Run.ACCEPTED, 0);
        run.hand(Run.ACCEPTED, 0);
        run.x.deliver(run.x.count(0) - 1);
        Check.same("2 KNOWS SLOT 2", run.knownUpTo(2, 5), "2:2");
        run.dropAll();
        run.x.fall(0);
        run.x.tick(6);
        run.hand(Run.PREPARE, 1);
        Check.due("1 ACCEPTED both", run.x.message(1, 5), 2);
        run.hand(Run.PROMISE, 2);
        run.wireIs("SLOT 1 is proposed", "1:2>0(18,0) 4:2>0(18,1) 4:2>1(18,1)");
        Check.due("the next", run.x.ask(2, 5, 1, Run.ADD, 1, 0), 0);
        run.wireIs("is for SLOT 3",
            "1:2>0(18,0) 4:2>0(18,1) 4:2>1(18,1) 4:2>0(18,3) 4:2>1(18,3)");
        run.settle();
        Check.due("all count", run.x.number(2, 0), 3);
    }

    private static void bestOf32() {
        Run run = Run.ledBy0(7);
        for (int seq = 1; seq <= 32; seq++) {
            run.x.ask(0, 0, seq, Run.ADD, seq, 0);
            run.hand(Run.ACCEPT, 1);
            run.hand(Run.ACCEPT, 2);
            run.hand(Run.ACCEPTED, 0);
            run.dropAll();
        }
        run.aboutIs("0 has applied them", 0, 4, 32);
        run.aboutIs("1 ACCEPTED them", 1, 12, 32);
        run.aboutIs("2 ACCEPTED them", 2, 12, 32);
        run.x.fall(0);
        run.x.tick(11);
        run.aboutIs("1 LEADS", 1, 2, 17);
        run.x.drop(0);
        run.hand(Run.PREPARE, 2);
        run.hand(Run.PROMISE, 1);
        run.wireIs("SLOTS 1 .. 4", "4:1>0(17,1) 4:1>2(17,1) 4:1>0(17,2) 4:1>2(17,2)"
            + " 4:1>0(17,3) 4:1>2(17,3) 4:1>0(17,4) 4:1>2(17,4)");
        Check.due("a request comes behind BEST", run.x.ask(1, 5, 1, Run.ADD, 1000, 0), 0);
        run.settle();
        run.aboutIs("all are applied", 1, 4, 33);
        Check.due("all count", run.x.number(1, 0), 33 * 16 + 1000);
        Check.due("SLOT 32", run.x.known(2, 32, 2), 32);
        Check.due("SLOT 33 is for the request", run.x.known(2, 33, 1), 5);
    }

    private static void nothingBeforeBest() {
        Run run = Run.nothingInThreeSlots();
        run.aboutIs("four PROPOSALS", 2, 11, 4);
        run.wireIs("SLOTS 1 .. 4", "1:2>0(18,0) 4:2>0(18,1) 4:2>1(18,1) 4:2>0(18,2) 4:2>1(18,2)"
            + " 4:2>0(18,3) 4:2>1(18,3) 4:2>0(18,4) 4:2>1(18,4)");
        run.settle();
        for (int slot = 1; slot <= 4; slot++) {
            Check.due("NOTHING before SLOT 4", run.x.known(1, slot, 0), slot == 4 ? Run.ADD : 0);
        }
        Check.due("SLOT 4", run.x.known(1, 4, 2), 4);
        run.aboutIs("no NOTHING behind it", 2, 4, 4);
        run.aboutIs("no NOTHING behind it", 2, 11, 0);
    }

    /** The last of four SLOTS alone is ACCEPTED by 1, which LEADS when 0 fell. */
    private static void nothingInLaterSlots() {
        for (int applied : new int[] {27, 28, 29, 60}) {
            Run run = Run.ledBy0(7);
            for (int seq = 1; seq <= applied; seq++) {
                run.x.ask(0, 0, seq, Run.ADD, 1, 0);
                run.settle();
            }
            for (int i = 1; i <= 4; i++) {
                run.x.ask(0, 1, i, Run.ADD, 1, 0);
            }
            run.x.deliver(6);
            run.dropAll();
            run.x.fall(0);
            run.x.tick(11);
            run.aboutIs("1 LEADS", 1, 2, 17);
            run.hand(Run.PREPARE, 2);
            run.hand(Run.PROMISE, 1);
            run.aboutIs("four PROPOSALS", 1, 11, 4);
            run.settle();
            for (int i = 1; i <= 4; i++) {
                Check.due("SLOT " + (applied + i), run.x.known(2, applied + i, 0), i == 4 ? Run.ADD : 0);
            }
        }
    }

    private static void queueBehindBest() {
        Run run = Run.nothingInThreeSlots();
        for (int seq = 1; seq <= 6; seq++) {
            Check.due("ask", run.x.ask(2, 1, seq, Run.ADD, 1, 0), 0);
        }
        run.aboutIs("they wait", 2, 9, 6);
        run.hand(Run.ACCEPT, 1);
        run.hand(Run.ACCEPTED, 2);
        run.aboutIs("one went out", 2, 9, 5);
        run.settle();
        for (int slot = 5; slot <= 10; slot++) {
            Check.due("the first comes first", run.x.known(1, slot, 2), slot - 4);
            Check.due("of client 1", run.x.known(1, slot, 1), 1);
        }
    }

    private static void emptyQueue() {
        Run run = Run.ledBy0(7);
        run.aboutIs("nothing to propose", 0, 11, 0);
        run.wireIs("nothing to propose", "");
        run.x.ask(0, 0, 1, Run.ADD, 1, 0);
        run.settle();
        run.aboutIs("nothing more to propose", 0, 11, 0);
        run.aboutIs("A", 0, 4, 1);
    }

    /** 0 LEADS with GRANTS of all, and SLOT 5, the next, has members 1 and 2. */
    private static Run leaderOutside() {
        Run run = Run.ledBy0(7);
        run.x.ask(0, 1, 1, Run.MEMBERS, 6, 0);
        run.chooseWhatIsAsked();
        run.dropAll();
        run.chooseWith1(1, 3);
        run.aboutIs("1 and 2 are the members", 0, 6, 6);
        Check.due("0 LEADS", run.x.ask(0, 0, 4, Run.ADD, 1, 0), 0);
        return run;
    }

    private static void leaderThatIsNoMember() {
        Run run = leaderOutside();
        run.wireIs("ACCEPT", "4:0>1(8,5) 4:0>2(8,5)");
        run.aboutIs("it is a PROPOSAL", 0, 11, 1);
        run.aboutIs("0 does not ACCEPT it", 0, 12, 0);
        run.hand(Run.ACCEPT, 1);
        run.hand(Run.ACCEPTED, 0);
        run.aboutIs("0 is not among ACKS", 0, 4, 4);
        run.hand(Run.ACCEPT, 2);
        run.hand(Run.ACCEPTED, 0);
        run.aboutIs("two of two", 0, 4, 5);
    }

    private static void acceptInOrder() {
        Run run = new Run(127);
        for (int node = 0; node < 3; node++) {
            run.x.fall(node);
        }
        run.x.tick(17);
        for (int node = 0; node < 3; node++) {
            run.x.rise(node);
        }
        run.settle();
        run.x.ask(3, 0, 1, Run.ADD, 1, 0);
        run.wireIs("all but itself", "4:3>0(11,1) 4:3>1(11,1) 4:3>2(11,1) 4:3>4(11,1) 4:3>5(11,1) 4:3>6(11,1)");
        run.aboutIs("it ACCEPTED it itself", 3, 12, 1);
    }

    private static void chosenByItself() {
        Run run = Run.ledBy0(3);
        run.x.ask(0, 1, 1, Run.MEMBERS, 1, 0);
        run.chooseWhatIsAsked();
        run.dropAll();
        for (int seq = 1; seq <= 4; seq++) {
            run.x.ask(0, 0, seq, Run.ADD, 1, 0);
        }
        run.wireIs("SLOTS 2 .. 4 have 0 and 1, SLOT 5 has 0 alone", "4:0>1(8,2) 4:0>1(8,3) 4:0>1(8,4) 8:0>1(0,5)");
        run.aboutIs("three PROPOSALS", 0, 11, 3);
        Check.same("SLOT 5 is chosen", run.knownUpTo(0, 9), "1:1 5:4");
        run.aboutIs("SLOT 2 is not", 0, 4, 1);
        run.x.drop(3);
        for (int slot = 2; slot <= 4; slot++) {
            run.hand(Run.ACCEPT, 1);
            run.hand(Run.ACCEPTED, 0);
        }
        run.aboutIs("all are applied", 0, 4, 5);
        Run alone = Run.ledBy0(1);
        alone.chooseAlone(1, 1);
        alone.wireIs("nobody is to be told", "");
        alone.aboutIs("it is chosen at once", 0, 4, 1);
    }

    private static void wantOfGrants() {
        Run run = Run.slot5HasOthers();
        run.x.ask(0, 0, 1, Run.ADD, 1, 0);
        run.x.ask(0, 0, 2, Run.ADD, 1, 0);
        run.x.ask(0, 0, 3, Run.ADD, 1, 0);
        run.wireIs("not SLOT 5, nor SLOT 6", "4:0>1(8,3) 4:0>2(8,3) 4:0>1(8,4) 4:0>2(8,4)");
        run.aboutIs("it waits", 0, 9, 1);
        run.dropAll();
        run.x.tick(3);
        run.hand(Run.PREPARE, 3);
        run.x.tick(1);
        run.hand(Run.PROMISE, 0);
        run.aboutIs("0 and 3 of 0, 3 and 4", 0, 10, 15);
        run.aboutIs("SLOT 5 is proposed", 0, 11, 3);
        run.aboutIs("it waits no more", 0, 9, 0);
        Check.due("SLOT 6 comes next", run.x.ask(0, 0, 4, Run.ADD, 1, 0), 0);
        run.aboutIs("SLOT 6 is proposed", 0, 11, 4);
    }

    // CHOSEN

    private static void chosenToPeers() {
        Run run = Run.ledBy0(1);
        run.x.ask(0, 1, 1, Run.MEMBERS, 7, 0);
        run.wireIs("PEERS are as before SLOT 1", "1:0>1(8,0) 1:0>2(8,0)");
        run.chooseAlone(1, 1);
        run.wireIs("1 and 2 are no members of SLOT 2, but PEERS", "1:0>1(8,0) 1:0>2(8,0) 8:0>1(0,2) 8:0>2(0,2)");
        Run down = Run.ledBy0(7);
        down.x.ask(0, 1, 1, Run.MEMBERS, 3, 0);
        down.chooseWhatIsAsked();
        down.chooseWith1(1, 3);
        down.x.ask(0, 0, 4, Run.ADD, 1, 0);
        down.hand(Run.ACCEPT, 1);
        down.hand(Run.ACCEPTED, 0);
        down.wireIs("2 is none of PEERS from SLOT 5 on", "8:0>1(0,5)");
    }

    /** 0 LEADS with 8 and proposed SLOTS 1 and 2; 2 LEADS with 18 and has chosen them with 1. */
    private static Run chosenByAnother() {
        Run run = Run.ledBy0(7);
        run.x.ask(0, 0, 1, Run.PUT, 5, 0);
        run.x.ask(0, 0, 2, Run.PUT, 6, 0);
        run.hand(Run.ACCEPT, 1);
        run.hand(Run.ACCEPT, 1);
        run.x.copy(run.find(Run.ACCEPTED, 0) + 1);
        run.x.drop(0);
        run.x.drop(0);
        run.x.drop(0);
        run.wireIs("ACCEPTED of SLOT 2", "5:1>0(8,2) 5:1>0(8,2)");
        run.x.drop(1);
        run.x.tick(6);
        run.x.deliver(run.x.count(0) - 1);
        run.x.deliver(run.x.count(0) - 1);
        for (int k = run.x.count(0) - 1; k > 0; k--) {
            if (run.x.message(k, 0) != Run.ACCEPT || run.x.message(k, 1) != 2) {
                run.x.drop(k);
            }
        }
        run.hand(Run.ACCEPT, 1);
        run.hand(Run.ACCEPT, 1);
        run.hand(Run.ACCEPTED, 2);
        run.hand(Run.ACCEPTED, 2);
        run.wireIs("2 has chosen both", "5:1>0(8,2) 4:2>0(18,1) 4:2>0(18,2)"
            + " 8:2>0(0,1) 8:2>1(0,1) 8:2>0(0,2) 8:2>1(0,2)");
        run.aboutIs("0 LEADS", 0, 1, 1);
        run.aboutIs("0 has two PROPOSALS", 0, 11, 2);
        return run;
    }

    private static void proposalOfAKnownSlot() {
        Run run = chosenByAnother();
        run.x.deliver(5);
        Check.same("SLOT 2 is KNOWN", run.knownUpTo(0, 5), "2:2");
        run.aboutIs("it is a PROPOSAL still", 0, 11, 2);
        run.dropAll();
        run.x.tick(3);
        run.wireIs("ACCEPT again", "6:0>1(8,0) 6:0>2(8,0) 4:0>1(8,1) 4:0>2(8,1) 4:0>1(8,2) 4:0>2(8,2)"
            + " 6:2>0(18,2) 1:2>0(18,0) 6:2>1(18,2)");

        Run again = chosenByAnother();
        again.x.deliver(5);
        again.x.deliver(0);
        again.aboutIs("a MAJORITY of ACKS: the PROPOSAL goes", 0, 11, 1);
        again.aboutIs("SLOT 1 is not chosen", 0, 4, 0);
        Check.due("CHOSEN to all PEERS", again.x.message(again.x.count(0) - 1, 0), Run.CHOSEN);
        Check.due("from 0", again.x.message(again.x.count(0) - 1, 1), 0);
    }

    private static void proposalsGo() {
        Run one = chosenByAnother();
        one.x.deliver(3);
        one.aboutIs("SLOT 1 is applied", 0, 4, 1);
        one.aboutIs("its PROPOSAL goes, that of SLOT 2 stays", 0, 11, 1);
        Run both = chosenByAnother();
        both.x.deliver(5);
        both.x.deliver(3);
        both.aboutIs("both are applied", 0, 4, 2);
        both.aboutIs("no PROPOSAL is left", 0, 11, 0);
        int sent = both.x.count(1);
        both.x.deliver(0);
        Check.due("ACCEPTED is for no PROPOSAL", both.x.count(1), sent);
        Check.due("SLOT 3 comes next", both.x.ask(0, 0, 3, Run.PUT, 7, 0), 0);
        Check.due("SLOT 3 comes next", both.x.message(both.x.count(0) - 1, 4), 3);
    }

    private static void grantedPeersComeBack() {
        Run run = Run.ledBy0(3);
        run.x.ask(0, 1, 1, Run.MEMBERS, 1, 0);
        run.settle();
        for (int seq = 1; seq <= 3; seq++) {
            run.x.ask(0, 0, seq, Run.ADD, 1, 0);
            run.settle();
        }
        run.chooseAlone(4, 4);
        run.wireIs("0 has no PEERS", "");
        run.aboutIs("1 is in GRANTS", 0, 10, 3);
        run.x.ask(0, 1, 2, Run.MEMBERS, 7, 0);
        run.wireIs("1 and 2 are PEERS, 2 is new", "1:0>2(8,0)");
    }

    private static void prepareToNewPeers() {
        Run run = new Run(7);
        run.x.tick(8);
        run.hand(Run.PREPARE, 1);
        run.hand(Run.PROMISE, 0);
        run.dropAll();
        run.x.ask(0, 0, 1, Run.MEMBERS, 63, 0);
        run.hand(Run.ACCEPT, 1);
        run.x.drop(0);
        run.hand(Run.ACCEPTED, 0);
        run.wireIs("1 is in GRANTS, 2 was one of PEERS", "8:0>1(0,1) 8:0>2(0,1) 1:0>3(8,0) 1:0>4(8,0) 1:0>5(8,0)");
        run.dropAll();
        run.x.ask(0, 0, 2, Run.ADD, 1, 0);
        run.hand(Run.ACCEPT, 1);
        run.x.drop(0);
        run.hand(Run.ACCEPTED, 0);
        run.wireIs("3, 4 and 5 are PEERS by now",
            "8:0>1(0,2) 8:0>2(0,2) 8:0>3(0,2) 8:0>4(0,2) 8:0>5(0,2)");
    }

    private static void leaderTakesASnapshot() {
        Run run = Run.ledBy0(7);
        run.chooseWith1(1, 16);
        run.x.ask(0, 1, 1, Run.MEMBERS, 15, 0);
        run.chooseWhatIsAsked();
        run.dropAll();
        run.x.fall(0);
        run.x.tick(6);
        run.wireIs("2 LEADS", "1:2>0(18,0) 1:2>1(18,0)");
        run.hand(Run.PREPARE, 1);
        run.hand(Run.PROMISE, 2);
        run.hand(Run.WANT, 1);
        run.dropAllBut(Run.SNAPSHOT);
        run.hand(Run.SNAPSHOT, 2);
        run.aboutIs("A", 2, 4, 17);
        run.aboutIs("it LEADS", 2, 1, 1);
        run.wireIs("3 is new among PEERS", "1:2>3(18,0)");
    }

    private static void followersDoNotPrepare() {
        Run run = Run.ledBy0(7);
        run.x.ask(0, 0, 1, Run.MEMBERS, 127, 0);
        run.hand(Run.ACCEPT, 1);
        run.hand(Run.ACCEPTED, 0);
        run.dropAllBut(Run.CHOSEN);
        run.settle();
        run.aboutIs("1 has applied it", 1, 4, 1);
        run.wireIs("1 and 2 do not LEAD", "");
        Run down = chosenByAnother();
        down.hand(Run.ACCEPT, 0);
        down.aboutIs("0 stepped down", 0, 1, 0);
        int sent = down.x.count(1);
        down.hand(Run.CHOSEN, 0);
        down.aboutIs("0 has applied SLOT 1", 0, 4, 1);
        Check.due("and sends nothing", down.x.count(1), sent);
    }

    private static void workWhenAIsGreater() {
        Run run = Run.queueOf(3);
        run.hand(Run.ACCEPT, 1);
        run.hand(Run.ACCEPTED, 0);
        run.aboutIs("SLOT 1 is applied", 0, 4, 1);
        run.aboutIs("SLOT 5 is proposed", 0, 9, 2);
        Check.due("ACCEPT", run.x.message(run.x.count(0) - 1, 0), Run.ACCEPT);
        Check.due("of SLOT 5", run.x.message(run.x.count(0) - 1, 4), 5);

        Run told = chosenByAnother();
        for (int seq = 3; seq <= 5; seq++) {
            told.x.ask(0, 0, seq, Run.ADD, 1, 0);
        }
        told.aboutIs("SLOTS 1 .. 4 are proposed", 0, 9, 1);
        told.hand(Run.CHOSEN, 0);
        told.aboutIs("SLOT 1 is applied", 0, 4, 1);
        told.aboutIs("SLOT 5 is proposed", 0, 9, 0);
    }

    /** SLOT 5, which 0 cannot propose, is chosen by 1: then 0 KNOWS it, but A of 0 stays. */
    private static void knownWhileAStays() {
        Run run = Run.slot5HasOthers();
        for (int seq = 1; seq <= 3; seq++) {
            run.x.ask(0, 0, seq, Run.ADD, 1, 0);
        }
        run.x.fall(2);
        run.x.rise(2);
        run.x.tick(11);
        run.aboutIs("1 LEADS", 1, 2, 17);
        for (int k = run.x.count(0) - 1; k >= 0; k--) {
            if (run.x.message(k, 1) != 1 || run.x.message(k, 2) == 0) {
                run.x.drop(k);
            }
        }
        for (int node = 2; node <= 4; node++) {
            run.hand(Run.PREPARE, node);
            run.hand(Run.PROMISE, 1);
        }
        for (int seq = 1; seq <= 3; seq++) {
            Check.due("1 LEADS", run.x.ask(1, 5, seq, Run.ADD, 1, 0), 0);
        }
        for (int node = 3; node <= 4; node++) {
            run.hand(Run.ACCEPT, node);
            run.hand(Run.ACCEPTED, 1);
        }
        run.aboutIs("0 LEADS", 0, 1, 1);
        run.aboutIs("SLOTS 3 and 4 are proposed", 0, 11, 2);
        int sent = run.x.count(1);
        run.hand(Run.CHOSEN, 0);
        Check.same("SLOT 5 is KNOWN", run.knownUpTo(0, 9), "1:1 2:2 5:3");
        run.aboutIs("A stays", 0, 4, 2);
        run.aboutIs("SLOT 6 is not proposed", 0, 11, 2);
        run.aboutIs("what waits waits on", 0, 9, 1);
        Check.due("nothing is sent", run.x.count(1), sent);
    }

    // TICK

    private static void tickOfThoseThatAreLive() {
        Run run = new Run(127);
        run.x.fall(0);
        run.x.fall(3);
        run.x.tick(5);
        int[] timers = {0, 6, 9, 0, 15, 18, 21};
        for (int node = 0; node < 7; node++) {
            run.aboutIs("after 5 TICKS", node, 8, timers[node]);
        }
        run.x.rise(3);
        run.x.tick(1);
        run.aboutIs("it is LIVE again", 3, 8, 16);
        run.x.tick(50);
        run.aboutIs("0 is not", 0, 1, 0);

        Run order = new Run(7);
        order.x.fall(0);
        order.x.tick(3);
        order.x.rise(0);
        order.x.tick(8);
        order.wireIs("0 and 1 begin in one TICK, 0 first", "1:0>1(8,0) 1:0>2(8,0) 1:1>0(9,0) 1:1>2(9,0)");
    }

    private static void beatEveryThreeTicks() {
        Run run = Run.ledBy0(65);
        for (int beat = 0; beat < 2; beat++) {
            run.aboutIs("TIMER", 0, 8, 3);
            Check.due("not yet", run.x.tick(1), 0);
            run.aboutIs("TIMER", 0, 8, 2);
            Check.due("not yet", run.x.tick(1), 0);
            run.aboutIs("TIMER", 0, 8, 1);
            Check.due("HEART", run.x.tick(1), 1);
            run.settle();
        }
        Check.due("two in six TICKS", run.x.tick(6), 2);
    }

    private static void heartAndPrepare() {
        Run run = new Run(31);
        run.x.tick(8);
        run.hand(Run.PREPARE, 1);
        run.hand(Run.PREPARE, 3);
        run.hand(Run.PROMISE, 0);
        run.hand(Run.PROMISE, 0);
        run.x.ask(0, 0, 1, Run.ADD, 1, 0);
        run.hand(Run.ACCEPT, 1);
        run.hand(Run.ACCEPT, 3);
        run.hand(Run.ACCEPTED, 0);
        run.hand(Run.ACCEPTED, 0);
        run.dropAll();
        run.x.tick(3);
        run.wireIs("2 and 4 are not in GRANTS; A is 1",
            "6:0>1(8,1) 6:0>2(8,1) 1:0>2(8,0) 6:0>3(8,1) 6:0>4(8,1) 1:0>4(8,0)");
    }

    private static void acceptAgain() {
        Run run = Run.ledBy0(31);
        run.x.ask(0, 0, 1, Run.ADD, 1, 0);
        run.x.ask(0, 0, 2, Run.ADD, 1, 0);
        run.hand(Run.ACCEPT, 3);
        run.hand(Run.ACCEPTED, 0);
        run.dropAll();
        run.x.fall(1);
        run.x.tick(3);
        run.wireIs("3 is among ACKS of SLOT 1", "6:0>1(8,0) 6:0>2(8,0) 6:0>3(8,0) 6:0>4(8,0)"
            + " 4:0>1(8,1) 4:0>2(8,1) 4:0>4(8,1) 4:0>1(8,2) 4:0>2(8,2) 4:0>3(8,2) 4:0>4(8,2)");
        run.settle();
        run.aboutIs("both are chosen", 0, 4, 2);
        run.x.tick(3);
        run.wireIs("no PROPOSAL, no ACCEPT", "6:0>1(8,2) 6:0>2(8,2) 6:0>3(8,2) 6:0>4(8,2)");
    }

    private static void acceptAgainButItself() {
        Run run = leaderOutside();
        run.dropAll();
        run.x.tick(3);
        run.wireIs("0 is no member", "6:0>1(8,4) 6:0>2(8,4) 4:0>1(8,5) 4:0>2(8,5)");
        Run mixed = Run.ledBy0(7);
        mixed.x.ask(0, 1, 1, Run.MEMBERS, 15, 0);
        mixed.chooseWhatIsAsked();
        mixed.dropAll();
        for (int seq = 1; seq <= 4; seq++) {
            mixed.x.ask(0, 0, seq, Run.ADD, 1, 0);
        }
        mixed.dropAll();
        mixed.x.tick(3);
        mixed.wireIs("3 is a member of SLOT 5 alone", "6:0>1(8,1) 6:0>2(8,1) 6:0>3(8,1) 1:0>3(8,0)"
            + " 4:0>1(8,2) 4:0>2(8,2) 4:0>1(8,3) 4:0>2(8,3) 4:0>1(8,4) 4:0>2(8,4) 4:0>1(8,5) 4:0>2(8,5) 4:0>3(8,5)");
    }

    private static void timerOfTheOthers() {
        for (int node = 1; node < 7; node++) {
            Run other = new Run(1);
            other.x.tick(7 + 3 * node);
            other.aboutIs("a TICK before", node, 8, 1);
            other.x.tick(1);
            other.aboutIs("at 0", node, 8, 8 + 3 * node);
            other.aboutIs("no member LEADS", node, 1, 0);
            other.aboutIs("nor has it a BALLOT", node, 2, 0);
        }
        Check.due("they send nothing", new Run(1).x.tick(50), 0);
    }

    /** SLOT 5 has members 0 and 1, those before 0 alone; 1 has applied SLOTS 1 .. 3, CHOSEN of SLOT 4 is on its way. */
    private static void memberOfTheNextSlot() {
        Run run = Run.ledBy0(1);
        run.x.ask(0, 1, 1, Run.MEMBERS, 3, 0);
        run.chooseAlone(1, 2);
        run.dropAll();
        run.x.tick(3);
        run.hand(Run.HEART, 1);
        run.hand(Run.WANT, 0);
        for (int slot = 1; slot <= 3; slot++) {
            run.hand(Run.CHOSEN, 1);
        }
        run.aboutIs("A", 1, 4, 3);
        run.chooseAlone(3, 3);
        run.x.fall(0);
        run.x.tick(11);
        run.aboutIs("1 is a member of SLOT 5 = A + 2", 1, 1, 0);
        run.aboutIs("TIMER", 1, 8, 11);
        run.hand(Run.CHOSEN, 1);
        run.aboutIs("A", 1, 4, 4);
        run.x.tick(11);
        run.aboutIs("1 is a member of SLOT 5 = A + 1", 1, 1, 1);
    }

    private static void memberNoMore() {
        Run run = Run.ledBy0(7);
        run.x.ask(0, 1, 1, Run.MEMBERS, 5, 0);
        run.settle();
        for (int seq = 1; seq <= 2; seq++) {
            run.x.ask(0, 0, seq, Run.ADD, 1, 0);
            run.settle();
        }
        run.x.ask(0, 0, 3, Run.ADD, 1, 0);
        run.settleBut(Run.CHOSEN);
        run.x.fall(0);
        run.aboutIs("1 is a member of SLOT 4 = A + 1", 1, 6, 7);
        run.hand(Run.CHOSEN, 1);
        run.aboutIs("but not of SLOT 5", 1, 6, 5);
        run.x.tick(11);
        run.aboutIs("it does not LEAD", 1, 1, 0);
        run.aboutIs("TIMER", 1, 8, 11);
        run.x.tick(3);
        run.aboutIs("2 does", 2, 1, 1);

        Run leader = leaderOutside();
        leader.settle();
        leader.x.tick(3);
        leader.aboutIs("0 is no member, but LEADS on", 0, 1, 1);
        leader.wireIs("HEART", "6:0>1(8,5) 6:0>2(8,5)");
    }
}
