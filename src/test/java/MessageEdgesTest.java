/** "Terms", each of the MESSAGES: each sentence that names a boundary case has a test of its own. */
public final class MessageEdgesTest {
    private MessageEdgesTest() { }

    public static void main(String[] args) {
        oldAndNew();
        promiseAndReject();
        acceptAndAccepted();
        heartAndWant();
        snapshot();
        Check.finish();
    }

    private static void oldAndNew() {
        Check.sentence("if n is not LIVE: lost", MessageEdgesTest::eachKindIsLost);
        Check.sentence("OLD b: b below PROMISED: PREPARE", MessageEdgesTest::oldPrepare);
        Check.sentence("OLD b: b below PROMISED: ACCEPT", MessageEdgesTest::oldAccept);
        Check.sentence("OLD b: b below PROMISED: HEART", MessageEdgesTest::oldHeart);
        Check.sentence("OLD b: below, not the same: PREPARE", MessageEdgesTest::samePrepare);
        Check.sentence("OLD b: below, not the same: ACCEPT and HEART", MessageEdgesTest::sameAcceptAndHeart);
        Check.sentence("NEW b: PROMISED is b; with a BALLOT below b, it STEPS DOWN", MessageEdgesTest::newBallot);
        Check.sentence("PREPARE: PROMISE (b, A, all ACCEPTED) to f", MessageEdgesTest::promiseTellsAll);
        Check.sentence("PREPARE: PROMISE as it was when it was sent", MessageEdgesTest::promiseStaysAsItWas);
    }

    private static void promiseAndReject() {
        Check.sentence("PROMISE: if n LEADS with b", MessageEdgesTest::promiseOfAnotherBallot);
        Check.sentence("PROMISE: if n LEADS with b, no more", MessageEdgesTest::promiseBehindSteppingDown);
        Check.sentence("PROMISE: x above A: WANT (A + 1) to f", MessageEdgesTest::promiseOfOneAhead);
        Check.sentence("PROMISE: else f is in GRANTS", MessageEdgesTest::promiseOfOneAsFarOrBehind);
        Check.sentence("PROMISE: of each in the list above A", MessageEdgesTest::promiseOfAppliedSlots);
        Check.sentence("PROMISE: the greater BALLOT goes into BEST", MessageEdgesTest::greaterBallotIsBest);
        Check.sentence("REJECT: the greatest round is told", MessageEdgesTest::greatestRoundIsTold);
        Check.sentence("REJECT: with a BALLOT below p, it STEPS DOWN", MessageEdgesTest::rejectAboveAndNot);
    }

    private static void acceptAndAccepted() {
        Check.sentence("ACCEPT: NEW b", MessageEdgesTest::acceptOfANewBallot);
        Check.sentence("ACCEPT: LEADER is f, TIMER 8 + 3 * n", MessageEdgesTest::acceptSetsLeader);
        Check.sentence("ACCEPT: t above A + 32: WANT (A + 1) to f", MessageEdgesTest::accept32Ahead);
        Check.sentence("ACCEPT: if t is above A, ACCEPTED for t is (b, v)", MessageEdgesTest::acceptOfALaterBallot);
        Check.sentence("ACCEPT: whatever t is, ACCEPTED (b, t) to f", MessageEdgesTest::acceptOfOldSlots);
        Check.sentence("ACCEPTED: if n LEADS with b", MessageEdgesTest::acceptedOfAnotherBallot);
        Check.sentence("ACCEPTED: if n LEADS with b, no more", MessageEdgesTest::acceptedBehindSteppingDown);
        Check.sentence("ACCEPTED: and has a PROPOSAL for t", MessageEdgesTest::acceptedForNoProposal);
        Check.sentence("ACCEPTED: f is in ACKS; a MAJORITY of CONFIG(t)", MessageEdgesTest::acksOfOneCountOnce);
    }

    private static void heartAndWant() {
        Check.sentence("HEART: with a BALLOT below b it STEPS DOWN", MessageEdgesTest::heartStepsDown);
        Check.sentence("HEART: LEADER is f, TIMER 8 + 3 * n", MessageEdgesTest::heartSetsLeader);
        Check.sentence("HEART: x above A: WANT (A + 1) to f", MessageEdgesTest::heartOfOneAhead);
        Check.sentence("WANT: u = t .. the lesser of A and t + 7", MessageEdgesTest::wantOfEight);
        Check.sentence("WANT: t above BASE: CHOSEN", MessageEdgesTest::wantAboveBase);
        Check.sentence("WANT: else SNAPSHOT (A, STATE, clients, CONFIGS)", MessageEdgesTest::wantOfBase);
        Check.sentence("WANT: of one that does not LEAD", MessageEdgesTest::wantOfAFollower);
    }

    private static void snapshot() {
        Check.sentence("SNAPSHOT: if x is above A", MessageEdgesTest::snapshotNotAboveA);
        Check.sentence("SNAPSHOT: these are its own, A and BASE are x", MessageEdgesTest::snapshotOneAhead);
        Check.sentence("SNAPSHOT: all not above x are forgotten", MessageEdgesTest::snapshotForgets);
        Check.sentence("SNAPSHOT: what can be is APPLIED", MessageEdgesTest::snapshotAppliesWhatCanBe);
        Check.sentence("SNAPSHOT: as it was when it was sent", MessageEdgesTest::snapshotStaysAsItWas);
    }

    /** Delivers the last MESSAGE on its way. */
    private static void handLast(Run run) {
        run.x.deliver(run.x.count(0) - 1);
    }

    /** The MESSAGE is delivered and answered by that one alone; nothing else of the NODE changes. */
    private static void answersOnly(Run run, int k, int node, String answer) {
        StringBuilder before = new StringBuilder();
        StringBuilder behind = new StringBuilder();
        for (int what = 0; what < 14; what++) {
            before.append(run.x.about(node, what)).append(' ');
        }
        int size = run.x.count(0);
        Check.due("it went to", run.x.deliver(k), node);
        for (int what = 0; what < 14; what++) {
            behind.append(run.x.about(node, what)).append(' ');
        }
        Check.same("about " + node, behind.toString(), before.toString());
        Check.due("one went, one came", run.x.count(0), size);
        String wire = run.wire();
        Check.same("the answer", wire.substring(wire.lastIndexOf(' ') + 1), answer);
    }

    // OLD b, NEW b, PREPARE

    private static void eachKindIsLost() {
        Run run = Run.ledBy0(7);
        run.chooseWith1(1, 17);
        run.x.tick(3);
        run.hand(Run.HEART, 2);
        run.hand(Run.WANT, 0);
        run.x.ask(0, 0, 18, Run.ADD, 1, 0);
        run.hand(Run.ACCEPT, 1);
        run.hand(Run.ACCEPTED, 0);
        for (int node = 0; node < 3; node++) {
            run.x.fall(node);
        }
        String before = run.sight();
        int onTheirWay = run.wire().length();
        run.wireIs("HEART, SNAPSHOT, ACCEPT, CHOSEN",
            "6:0>1(8,17) 9:0>2(0,17) 4:0>2(8,18) 8:0>1(0,18) 8:0>2(0,18)");
        while (run.x.count(0) > 0) {
            run.x.deliver(0);
        }
        Check.same("nothing changed", run.sight().substring(2), before.substring(onTheirWay + 2));
    }

    /** 0 LEADS with 8, 1 with 9; 2 PROMISED 9. */
    private static Run twoPromised9() {
        Run run = new Run(7);
        run.x.tick(11);
        run.wireIs("MESSAGES of 0 and 1", "1:0>1(8,0) 1:0>2(8,0) 6:0>1(8,0) 1:0>1(8,0) 6:0>2(8,0) 1:0>2(8,0)"
            + " 1:1>0(9,0) 1:1>2(9,0)");
        run.x.deliver(7);
        run.aboutIs("2 PROMISED 9", 2, 3, 9);
        run.aboutIs("it follows nobody", 2, 7, -1);
        return run;
    }

    private static void oldPrepare() {
        Run run = twoPromised9();
        answersOnly(run, 1, 2, "3:2>0(9,0)");
        answersOnly(run, 0, 1, "3:1>0(9,0)");
        run.aboutIs("1 LEADS on", 1, 1, 1);
    }

    private static void oldAccept() {
        Run run = Run.ledBy0(7);
        run.x.ask(0, 0, 1, Run.ADD, 1, 0);
        run.x.tick(3);
        handLast(run);
        run.aboutIs("2 PROMISED 17", 2, 3, 17);
        answersOnly(run, 1, 2, "3:2>0(17,0)");
        run.aboutIs("it ACCEPTED nothing", 2, 12, 0);
    }

    private static void oldHeart() {
        Run run = twoPromised9();
        answersOnly(run, 4, 2, "3:2>0(9,0)");
        Run ahead = Run.ledBy0(7);
        ahead.chooseWith1(1, 1);
        ahead.x.tick(6);
        ahead.aboutIs("2 LEADS with 18", 2, 2, 18);
        answersOnly(ahead, ahead.find(Run.HEART, 2), 2, "3:2>0(18,0)");
    }

    private static void samePrepare() {
        Run run = new Run(7);
        run.x.tick(8);
        run.x.copy(0);
        run.hand(Run.PREPARE, 1);
        run.hand(Run.PREPARE, 1);
        run.wireIs("PROMISE twice", "1:0>2(8,0) 2:1>0(8,0) 2:1>0(8,0)");
        run.hand(Run.PROMISE, 0);
        run.hand(Run.PROMISE, 0);
        run.aboutIs("one GRANT", 0, 10, 3);
    }

    private static void sameAcceptAndHeart() {
        Run run = Run.ledBy0(7);
        run.aboutIs("2 PROMISED 8", 2, 3, 8);
        run.x.ask(0, 0, 1, Run.ADD, 1, 0);
        run.hand(Run.ACCEPT, 2);
        run.wireIs("ACCEPTED", "4:0>1(8,1) 5:2>0(8,1)");
        Run heart = Run.ledBy0(65);
        heart.aboutIs("6 PROMISED 8", 6, 3, 8);
        heart.x.tick(3);
        heart.hand(Run.HEART, 6);
        heart.aboutIs("6 follows 0", 6, 7, 0);
        heart.wireIs("no REJECT", "");
    }

    private static void newBallot() {
        Run follower = Run.ledBy0(7);
        follower.chooseWith1(1, 1);
        follower.x.tick(6);
        follower.aboutIs("2 LEADS with 18", 2, 2, 18);
        follower.aboutIs("TIMER", 1, 8, 5);
        handLast(follower);
        int[] due = {1, 0, 0, 18, 1, 0, 7, 0, 5, 0, 0, 0, 0, 1};
        for (int what = 0; what < 14; what++) {
            follower.aboutIs("1 PROMISED, LEADER and TIMER stay", 1, what, due[what]);
        }
        Run leader = Run.rivals();
        leader.hand(Run.PREPARE, 0);
        leader.aboutIs("0 PROMISED", 0, 3, 18);
        leader.aboutIs("it stepped down", 0, 1, 0);
        Run nextBallot = twoPromised9();
        nextBallot.hand(Run.PREPARE, 0);
        nextBallot.aboutIs("9 is above 8", 0, 3, 9);
        nextBallot.aboutIs("0 stepped down", 0, 1, 0);
    }

    private static void promiseTellsAll() {
        Run run = Run.queueOf(0);
        run.hand(Run.ACCEPT, 2);
        run.hand(Run.ACCEPT, 2);
        run.hand(Run.ACCEPT, 2);
        run.hand(Run.ACCEPTED, 0);
        run.hand(Run.CHOSEN, 2);
        run.aboutIs("A", 2, 4, 1);
        run.dropAll();
        run.x.tick(3);
        run.hand(Run.PREPARE, 2);
        handLast(run);
        run.aboutIs("1 has applied nothing: it WANTS", 1, 10, 2);
        Run look = Run.queueOf(0);
        look.hand(Run.ACCEPT, 2);
        look.hand(Run.ACCEPT, 2);
        look.hand(Run.ACCEPT, 2);
        look.dropAll();
        look.x.tick(3);
        look.hand(Run.PREPARE, 2);
        int k = look.x.count(0) - 1;
        Check.same("BALLOT, A and three ACCEPTED",
            look.x.message(k, 3) + " " + look.x.message(k, 4) + " " + look.x.message(k, 5), "17 0 3");
        handLast(look);
        look.aboutIs("all three are BEST", 1, 11, 3);
    }

    private static void promiseStaysAsItWas() {
        Run run = new Run(7);
        run.x.tick(8);
        run.hand(Run.PREPARE, 1);
        run.hand(Run.PREPARE, 2);
        run.hand(Run.PROMISE, 0);
        run.x.ask(0, 0, 1, Run.ADD, 1, 0);
        run.hand(Run.ACCEPT, 2);
        run.aboutIs("2 ACCEPTED SLOT 1", 2, 12, 1);
        Check.due("its PROMISE was sent before", run.x.message(run.find(Run.PROMISE, 0), 5), 0);
        run.dropAll();
        run.x.tick(3);
        run.hand(Run.PREPARE, 2);
        int k = run.x.count(0) - 1;
        Check.due("PROMISE with one", run.x.message(k, 5), 1);
        run.x.tick(3);
        run.x.fall(2);
        Check.due("though it fell", run.x.message(k, 5), 1);
    }

    // PROMISE, REJECT

    private static void promiseOfAnotherBallot() {
        Run old = new Run(7);
        old.x.tick(8);
        old.hand(Run.PREPARE, 1);
        old.x.fall(0);
        old.x.rise(0);
        old.hand(Run.PROMISE, 0);
        old.aboutIs("it does not LEAD", 0, 10, 0);
        Run again = new Run(7);
        again.x.tick(8);
        again.hand(Run.PREPARE, 1);
        again.x.fall(0);
        again.x.rise(0);
        again.x.tick(8);
        again.aboutIs("it LEADS with 16", 0, 2, 16);
        again.hand(Run.PROMISE, 0);
        again.aboutIs("8 is no GRANT for 16", 0, 10, 1);
        Run down = Run.rivals();
        down.hand(Run.PREPARE, 1);
        down.hand(Run.PREPARE, 0);
        down.aboutIs("0 stepped down", 0, 1, 0);
        down.hand(Run.PROMISE, 0);
        down.aboutIs("it is its BALLOT, but it does not LEAD", 0, 10, 0);
        down.aboutIs("it is its BALLOT", 0, 2, 8);
    }

    private static void promiseBehindSteppingDown() {
        Run run = Run.ledBy0(7);
        run.chooseWith1(1, 1);
        run.x.fall(0);
        run.x.tick(6);
        run.hand(Run.PREPARE, 1);
        run.x.tick(5);
        run.aboutIs("1 LEADS", 1, 2, 25);
        handLast(run);
        run.aboutIs("2 stepped down", 2, 1, 0);
        run.aboutIs("its BALLOT stays", 2, 2, 18);
        int sent = run.x.count(1);
        run.hand(Run.PROMISE, 2);
        Check.due("1 is ahead, but 2 does not want", run.x.count(1), sent);
    }

    private static void promiseOfOneAhead() {
        for (int ahead = 1; ahead <= 3; ahead++) {
            Run run = Run.ledBy0(7);
            run.chooseWith1(1, ahead);
            run.x.fall(0);
            run.x.tick(6);
            run.hand(Run.PREPARE, 1);
            Check.due("x", run.x.message(1, 4), ahead);
            run.hand(Run.PROMISE, 2);
            run.wireIs("2 wants SLOT 1", "1:2>0(18,0) 7:2>1(0,1)");
            run.aboutIs("1 is not in GRANTS", 2, 10, 4);
        }
    }

    private static void promiseOfOneAsFarOrBehind() {
        Run as = Run.ledBy0(7);
        as.x.ask(0, 0, 1, Run.ADD, 1, 0);
        as.settle();
        as.x.fall(0);
        as.x.tick(11);
        as.hand(Run.PREPARE, 2);
        as.hand(Run.PROMISE, 1);
        as.aboutIs("2 is as far as 1", 1, 10, 6);
        as.wireIs("nothing is wanted", "1:1>0(17,0)");
        Run behind = Run.ledBy0(7);
        behind.chooseWith1(1, 2);
        behind.x.fall(0);
        behind.x.fall(2);
        behind.x.rise(2);
        behind.x.tick(11);
        behind.hand(Run.PREPARE, 2);
        behind.hand(Run.PROMISE, 1);
        behind.aboutIs("2 is behind 1", 1, 10, 6);
        behind.wireIs("nothing is wanted", "1:1>0(17,0)");
    }

    private static void promiseOfAppliedSlots() {
        Run run = Run.ledBy0(7);
        run.x.ask(0, 0, 1, Run.ADD, 1, 0);
        run.x.ask(0, 0, 2, Run.ADD, 1, 0);
        run.hand(Run.ACCEPT, 2);
        run.hand(Run.ACCEPT, 2);
        run.hand(Run.ACCEPTED, 0);
        run.hand(Run.CHOSEN, 1);
        run.dropAll();
        run.x.fall(0);
        run.x.tick(3);
        run.aboutIs("1 LEADS and has applied SLOT 1", 1, 4, 1);
        run.hand(Run.PREPARE, 2);
        Check.due("2 ACCEPTED SLOTS 1 and 2", run.x.message(1, 5), 2);
        run.hand(Run.PROMISE, 1);
        run.wireIs("SLOT 2 is proposed again", "1:1>0(17,0) 4:1>0(17,2) 4:1>2(17,2)");
    }

    /** 0 proposed PUT 5 for SLOT 1 with 8, 1 ACCEPTED it; 2 proposed PUT 6 with 18, 3 ACCEPTED it; 4 LEADS with 28. */
    private static Run twoValuesForSlot1() {
        Run run = Run.ledBy0(31);
        run.x.ask(0, 0, 1, Run.PUT, 5, 0);
        run.hand(Run.ACCEPT, 1);
        run.dropAll();
        run.x.fall(0);
        run.x.tick(6);
        for (int node = 3; node <= 4; node++) {
            run.hand(Run.PREPARE, node);
            run.hand(Run.PROMISE, 2);
        }
        Check.due("2 LEADS", run.x.ask(2, 1, 1, Run.PUT, 6, 0), 0);
        run.hand(Run.ACCEPT, 3);
        run.dropAll();
        run.x.fall(2);
        run.x.tick(5);
        run.dropAll();
        run.x.tick(1);
        run.aboutIs("4 LEADS", 4, 2, 28);
        return run;
    }

    private static void greaterBallotIsBest() {
        for (int first = 1; first <= 3; first += 2) {
            Run run = twoValuesForSlot1();
            run.hand(Run.PREPARE, first);
            run.hand(Run.PREPARE, 4 - first);
            run.hand(Run.PROMISE, 4);
            run.hand(Run.PROMISE, 4);
            run.aboutIs("it is proposed", 4, 11, 1);
            run.settle();
            Check.due("that of 18 is chosen", run.x.number(4, 0), 6);
        }
    }

    private static void greatestRoundIsTold() {
        for (int greaterFirst = 0; greaterFirst < 2; greaterFirst++) {
            Run run = new Run(7);
            run.x.tick(8);
            run.hand(Run.PREPARE, 2);
            run.dropAll();
            run.x.tick(6);
            run.aboutIs("1 LEADS", 1, 2, 9);
            run.aboutIs("2 LEADS", 2, 2, 18);
            run.hand(Run.HEART, greaterFirst == 0 ? 1 : 2);
            run.hand(Run.HEART, greaterFirst == 0 ? 2 : 1);
            run.hand(Run.REJECT, 0);
            run.hand(Run.REJECT, 0);
            run.aboutIs("0 stepped down", 0, 1, 0);
            run.dropAll();
            run.x.tick(8);
            run.aboutIs("a round above 18", 0, 2, 24);
        }
    }

    private static void rejectAboveAndNot() {
        Run above = twoPromised9();
        above.x.deliver(1);
        handLast(above);
        above.aboutIs("8 is below 9", 0, 1, 0);

        Run same = Run.ledBy0(7);
        same.x.ask(0, 0, 1, Run.ADD, 1, 0);
        same.x.fall(0);
        same.x.rise(0);
        same.x.fall(1);
        same.x.rise(1);
        same.x.fall(2);
        same.x.rise(2);
        same.x.tick(8);
        same.wireIs("0 LEADS with 16", "4:0>1(8,1) 4:0>2(8,1) 1:0>1(16,0) 1:0>2(16,0)");
        same.hand(Run.PREPARE, 1);
        same.hand(Run.ACCEPT, 1);
        same.wireIs("1 rejects 8", "4:0>2(8,1) 1:0>2(16,0) 2:1>0(16,0) 3:1>0(16,0)");
        same.x.copy(3);
        handLast(same);
        same.aboutIs("16 is not below 16", 0, 1, 1);
        same.x.fall(0);
        same.x.rise(0);
        same.x.fall(1);
        same.x.rise(1);
        same.x.fall(2);
        same.x.rise(2);
        same.x.tick(8);
        same.aboutIs("0 LEADS with 24", 0, 2, 24);
        same.hand(Run.REJECT, 0);
        same.aboutIs("24 is not below 16", 0, 1, 1);
    }

    // ACCEPT, ACCEPTED

    /** 2 LEADS with 18 and GRANTS of 1 and itself; 0 LEADS with 8 and has not heard of it. */
    private static Run twoLeaders() {
        Run run = Run.ledBy0(7);
        run.x.ask(0, 0, 1, Run.PUT, 5, 0);
        run.x.drop(1);
        run.x.fall(1);
        run.x.tick(6);
        run.x.rise(1);
        run.x.drop(run.find(Run.PREPARE, 0));
        run.hand(Run.PREPARE, 1);
        run.hand(Run.PROMISE, 2);
        Check.due("2 LEADS", run.x.ask(2, 1, 1, Run.PUT, 6, 0), 0);
        return run;
    }

    private static void acceptOfANewBallot() {
        Run run = twoLeaders();
        run.hand(Run.ACCEPT, 0);
        int[] due = {1, 0, 8, 18, 0, 0, 7, 2, 8, 0, 0, 0, 1, 1};
        for (int what = 0; what < 14; what++) {
            run.aboutIs("0 stepped down and ACCEPTED", 0, what, due[what]);
        }
        Check.due("ACCEPTED", run.x.message(run.x.count(0) - 1, 0), Run.ACCEPTED);
        handLast(run);
        run.aboutIs("2 has chosen it", 2, 4, 1);
        Check.due("of 18", run.x.number(2, 0), 6);
    }

    private static void acceptSetsLeader() {
        for (int node = 1; node < 7; node++) {
            Run run = Run.ledBy0(127);
            run.x.tick(2);
            run.x.ask(0, 0, 1, Run.ADD, 1, 0);
            run.aboutIs("no LEADER yet", node, 7, -1);
            run.aboutIs("TIMER", node, 8, 3 * node - 2);
            run.hand(Run.ACCEPT, node);
            run.aboutIs("LEADER", node, 7, 0);
            run.aboutIs("TIMER", node, 8, 8 + 3 * node);
        }
    }

    /** 0 and 1 have chosen all SLOTS before these, of which ACCEPT to 2 is on its way; 2 has heard of none. */
    private static Run acceptsOf(int first, int last) {
        Run run = Run.ledBy0(7);
        run.chooseWith1(1, first - 1);
        for (int seq = first; seq <= last; seq++) {
            run.x.ask(0, 0, seq, Run.ADD, 1, 0);
            run.x.drop(run.find(Run.ACCEPT, 1));
        }
        return run;
    }

    private static void accept32Ahead() {
        Run run = acceptsOf(32, 34);
        run.wireIs("ACCEPT", "4:0>2(8,32) 4:0>2(8,33) 4:0>2(8,34)");
        run.hand(Run.ACCEPT, 2);
        run.wireIs("A + 32", "4:0>2(8,33) 4:0>2(8,34) 5:2>0(8,32)");
        run.aboutIs("it is ACCEPTED", 2, 12, 1);
        run.hand(Run.ACCEPT, 2);
        run.wireIs("A + 33", "4:0>2(8,34) 5:2>0(8,32) 7:2>0(0,1)");
        run.hand(Run.ACCEPT, 2);
        run.wireIs("A + 34", "5:2>0(8,32) 7:2>0(0,1) 7:2>0(0,1)");
        run.aboutIs("they are not ACCEPTED", 2, 12, 1);
        run.aboutIs("but their LEADER is followed", 2, 7, 0);
        run.aboutIs("TIMER", 2, 8, 14);
    }

    private static void acceptOfALaterBallot() {
        Run run = Run.ledBy0(31);
        run.x.ask(0, 0, 1, Run.PUT, 5, 0);
        run.hand(Run.ACCEPT, 1);
        run.dropAll();
        run.x.fall(0);
        run.x.tick(6);
        for (int node = 3; node <= 4; node++) {
            run.hand(Run.PREPARE, node);
            run.hand(Run.PROMISE, 2);
        }
        Check.due("2 LEADS", run.x.ask(2, 1, 1, Run.PUT, 6, 0), 0);
        run.hand(Run.ACCEPT, 1);
        run.aboutIs("one SLOT is ACCEPTED", 1, 12, 1);
        run.dropAll();
        run.x.fall(2);
        run.x.fall(3);
        run.x.rise(3);
        run.x.tick(6);
        run.aboutIs("4 LEADS", 4, 2, 28);
        run.hand(Run.PREPARE, 1);
        run.hand(Run.PREPARE, 3);
        run.hand(Run.PROMISE, 4);
        run.hand(Run.PROMISE, 4);
        run.settle();
        Check.due("1 ACCEPTED PUT 6 instead of PUT 5", run.x.number(4, 0), 6);
    }

    private static void acceptOfOldSlots() {
        Run run = Run.ledBy0(7);
        run.x.ask(0, 1, 1, Run.ADD, 1, 0);
        run.x.copy(0);
        run.x.copy(0);
        run.x.copy(0);
        run.hand(Run.ACCEPT, 1);
        run.hand(Run.ACCEPTED, 0);
        run.x.copy(run.find(Run.ACCEPT, 1));
        run.hand(Run.ACCEPT, 1);
        run.aboutIs("t = A + 1", 1, 12, 1);
        run.hand(Run.CHOSEN, 1);
        run.aboutIs("A", 1, 4, 1);
        run.hand(Run.ACCEPT, 1);
        Check.due("t = A: ACCEPTED", run.x.message(run.x.count(0) - 1, 0), Run.ACCEPTED);
        Check.due("t = A: SLOT 1", run.x.message(run.x.count(0) - 1, 4), 1);
        run.aboutIs("t = A: not kept", 1, 12, 0);

        Run base = Run.ledBy0(7);
        base.x.ask(0, 1, 1, Run.ADD, 1, 0);
        base.x.copy(0);
        base.x.drop(1);
        base.chooseWhatIsAsked();
        base.x.drop(1);
        base.wireIs("ACCEPT of SLOT 1", "4:0>1(8,1)");
        for (int seq = 1; seq <= 16; seq++) {
            base.x.ask(0, 0, seq, Run.ADD, 1, 0);
            base.x.drop(2);
            base.x.deliver(1);
            base.hand(Run.ACCEPTED, 0);
            base.hand(Run.CHOSEN, 1);
            base.x.drop(1);
        }
        base.aboutIs("t = BASE", 1, 5, 1);
        base.hand(Run.ACCEPT, 1);
        base.wireIs("t = BASE: ACCEPTED", "5:1>0(8,1)");
        base.aboutIs("t = BASE: not kept", 1, 12, 0);
    }

    private static void acceptedOfAnotherBallot() {
        Run run = twoLeaders();
        run.x.copy(run.find(Run.ACCEPT, 1));
        run.dropAllBut(Run.ACCEPT);
        run.hand(Run.ACCEPT, 0);
        run.aboutIs("0 stepped down", 0, 1, 0);
        run.x.fall(2);
        run.x.rise(2);
        run.dropAllBut(Run.ACCEPTED);
        run.wireIs("ACCEPTED of 18", "5:0>2(18,1)");
        run.x.copy(0);
        run.hand(Run.ACCEPTED, 2);
        run.aboutIs("2 does not LEAD", 2, 4, 0);
        run.x.fall(0);
        run.x.fall(1);
        run.x.rise(1);
        run.x.tick(11);
        run.x.fall(1);
        run.x.rise(1);
        run.x.tick(3);
        run.aboutIs("2 LEADS with 26", 2, 2, 26);
        run.hand(Run.PREPARE, 1);
        run.x.deliver(run.x.count(0) - 1);
        run.aboutIs("SLOT 1 is proposed again", 2, 11, 1);
        run.hand(Run.ACCEPTED, 2);
        run.aboutIs("18 is no ACK for 26", 2, 4, 0);
        run.aboutIs("18 is no ACK for 26", 2, 11, 1);
    }

    private static void acceptedBehindSteppingDown() {
        Run run = Run.queueOf(0);
        run.hand(Run.ACCEPT, 1);
        run.x.tick(6);
        run.aboutIs("2 LEADS", 2, 2, 18);
        run.hand(Run.PREPARE, 0);
        run.aboutIs("0 stepped down", 0, 1, 0);
        run.aboutIs("its BALLOT stays", 0, 2, 8);
        int sent = run.x.count(1);
        run.hand(Run.ACCEPTED, 0);
        Check.due("nothing is chosen", run.x.count(1), sent);
        run.aboutIs("nothing is chosen", 0, 4, 0);
    }

    private static void acceptedForNoProposal() {
        Run run = Run.ledBy0(7);
        run.x.ask(0, 0, 1, Run.ADD, 1, 0);
        run.hand(Run.ACCEPT, 1);
        run.hand(Run.ACCEPT, 2);
        run.hand(Run.ACCEPTED, 0);
        run.aboutIs("SLOT 1 is chosen", 0, 4, 1);
        int sent = run.x.count(1);
        run.hand(Run.ACCEPTED, 0);
        Check.due("it is not chosen twice", run.x.count(1), sent);

        Run gap = Run.queueOf(0);
        gap.hand(Run.ACCEPT, 1);
        gap.x.drop(gap.find(Run.ACCEPTED, 0));
        gap.hand(Run.ACCEPT, 1);
        gap.x.copy(gap.find(Run.ACCEPTED, 0));
        gap.hand(Run.ACCEPTED, 0);
        gap.aboutIs("SLOT 2 is chosen and waits", 0, 11, 3);
        int sentBefore = gap.x.count(1);
        gap.hand(Run.ACCEPTED, 0);
        Check.due("SLOT 2 is not chosen twice", gap.x.count(1), sentBefore);
        gap.aboutIs("SLOT 2 is no PROPOSAL", 0, 11, 3);
    }

    private static void acksOfOneCountOnce() {
        Run run = Run.ledBy0(31);
        run.x.ask(0, 0, 1, Run.ADD, 1, 0);
        run.hand(Run.ACCEPT, 1);
        run.x.copy(run.find(Run.ACCEPTED, 0));
        run.x.copy(run.find(Run.ACCEPTED, 0));
        for (int i = 0; i < 3; i++) {
            run.hand(Run.ACCEPTED, 0);
            run.aboutIs("two of five", 0, 4, 0);
        }
        run.hand(Run.ACCEPT, 4);
        run.hand(Run.ACCEPTED, 0);
        run.aboutIs("three of five", 0, 4, 1);
    }

    // HEART, WANT

    private static void heartStepsDown() {
        Run run = Run.rivals();
        run.hand(Run.HEART, 0);
        int[] due = {1, 0, 8, 8, 0, 0, 7, 2, 8, 0, 0, 0, 0, 1};
        for (int what = 0; what < 14; what++) {
            run.aboutIs("0 stepped down and PROMISED nothing", 0, what, due[what]);
        }
        Check.due("no answer", run.x.count(0), 7);
        run.hand(Run.HEART, 2);
        run.aboutIs("8 is below 18: 2 LEADS on", 2, 1, 1);
        run.aboutIs("2 is its own LEADER", 2, 7, 2);
    }

    private static void heartSetsLeader() {
        for (int node = 1; node < 7; node++) {
            Run run = Run.ledBy0(127);
            run.x.fall(1);
            run.x.rise(1);
            run.x.tick(3);
            run.aboutIs("no LEADER yet", node, 7, -1);
            run.hand(Run.HEART, node);
            run.aboutIs("LEADER", node, 7, 0);
            run.aboutIs("TIMER", node, 8, 8 + 3 * node);
            run.aboutIs("it does not LEAD", node, 1, 0);
            run.aboutIs("its BALLOT", node, 2, 0);
        }
    }

    private static void heartOfOneAhead() {
        Run run = Run.ledBy0(7);
        run.chooseWith1(1, 1);
        run.x.tick(3);
        run.x.copy(run.find(Run.HEART, 1));
        run.wireIs("HEARTS of A = 1", "6:0>1(8,1) 6:0>2(8,1) 6:0>1(8,1)");
        run.hand(Run.HEART, 1);
        run.wireIs("x = A", "6:0>2(8,1) 6:0>1(8,1)");
        run.hand(Run.HEART, 2);
        run.wireIs("x = A + 1", "6:0>1(8,1) 7:2>0(0,1)");
        run.x.drop(1);
        run.x.ask(0, 0, 2, Run.ADD, 1, 0);
        run.hand(Run.ACCEPT, 1);
        run.hand(Run.ACCEPTED, 0);
        run.hand(Run.CHOSEN, 1);
        run.aboutIs("A", 1, 4, 2);
        int sent = run.x.count(1);
        run.hand(Run.HEART, 1);
        Check.due("x = A - 1", run.x.count(1), sent);
        run.dropAll();
        run.chooseWith1(3, 5);
        run.x.tick(3);
        run.hand(Run.HEART, 2);
        run.wireIs("x = A + 5", "6:0>1(8,5) 7:2>0(0,1)");
    }

    /** 2, which has applied SLOTS before the first one, WANTS more of 0, which has applied all up to the last one. */
    private static String wanted(int first, int last) {
        Run run = Run.ledBy0(7);
        for (int seq = 1; seq < first; seq++) {
            run.x.ask(0, 0, seq, Run.ADD, 1, 0);
            run.settle();
        }
        run.chooseWith1(first, last);
        run.aboutIs("A", 0, 4, last);
        run.aboutIs("A", 2, 4, first - 1);
        run.x.tick(3);
        run.hand(Run.HEART, 1);
        run.hand(Run.HEART, 2);
        run.wireIs("WANT", "7:2>0(0," + first + ")");
        run.hand(Run.WANT, 0);
        return run.wire();
    }

    private static void wantOfEight() {
        StringBuilder due = new StringBuilder();
        for (int slot = 1; slot <= 10; slot++) {
            if (slot <= 8) {
                due.append(slot == 1 ? "" : " ").append("8:0>2(0,").append(slot).append(')');
            }
            Check.same("SLOTS 1 .. of " + slot, wanted(1, slot), due.toString());
        }
        Check.same("SLOTS 5 .. of 11", wanted(5, 11),
            "8:0>2(0,5) 8:0>2(0,6) 8:0>2(0,7) 8:0>2(0,8) 8:0>2(0,9) 8:0>2(0,10) 8:0>2(0,11)");
        Check.same("the last SLOT", wanted(6, 6), "8:0>2(0,6)");
    }

    private static void wantAboveBase() {
        String eight = "8:0>2(0,1) 8:0>2(0,2) 8:0>2(0,3) 8:0>2(0,4) 8:0>2(0,5) 8:0>2(0,6) 8:0>2(0,7) 8:0>2(0,8)";
        Check.same("BASE is 0, t is 1", wanted(1, 16), eight);
        String next = "8:0>2(0,2) 8:0>2(0,3) 8:0>2(0,4) 8:0>2(0,5) 8:0>2(0,6) 8:0>2(0,7) 8:0>2(0,8) 8:0>2(0,9)";
        Check.same("BASE is 1, t is 2", wanted(2, 17), next);
    }

    private static void wantOfBase() {
        Check.same("BASE is 1, t is 1", wanted(1, 17), "9:0>2(0,17)");
        Check.same("BASE is 2, t is 2", wanted(2, 18), "9:0>2(0,18)");
        Check.same("BASE is 4, t is 2", wanted(2, 20), "9:0>2(0,20)");
    }

    private static void wantOfAFollower() {
        Run run = Run.ledBy0(7);
        run.chooseWith1(1, 2);
        run.x.fall(0);
        run.x.tick(6);
        run.hand(Run.PREPARE, 1);
        run.hand(Run.PROMISE, 2);
        run.hand(Run.WANT, 1);
        run.wireIs("1 does not LEAD, but answers", "1:2>0(18,0) 8:1>2(0,1) 8:1>2(0,2)");
    }

    // SNAPSHOT

    /** SNAPSHOT of SLOTS 1 .. 17 is on its way to 2 behind CHOSEN of each; 2 has applied nothing. */
    private static Run snapshotBehindChosen() {
        Run run = Run.ledBy0(7);
        for (int seq = 1; seq <= 17; seq++) {
            run.x.ask(0, 0, seq, Run.ADD, 1, 0);
            run.chooseWhatIsAsked();
            run.x.drop(run.find(Run.ACCEPT, 2));
        }
        run.x.tick(3);
        run.hand(Run.HEART, 2);
        run.hand(Run.WANT, 0);
        Check.due("17 CHOSEN, a HEART to 1 and SNAPSHOT", run.x.count(0), 19);
        Check.due("SNAPSHOT is the last", run.x.message(18, 0), Run.SNAPSHOT);
        return run;
    }

    private static void snapshotNotAboveA() {
        Run run = snapshotBehindChosen();
        for (int slot = 1; slot <= 17; slot++) {
            run.hand(Run.CHOSEN, 2);
        }
        run.aboutIs("x = A", 2, 4, 17);
        run.hand(Run.SNAPSHOT, 2);
        run.aboutIs("nothing changed", 2, 5, 1);
        Check.due("SLOT 17 is KNOWN", run.x.known(2, 17, 2), 17);

        Run above = snapshotBehindChosen();
        for (int slot = 1; slot <= 17; slot++) {
            above.hand(Run.CHOSEN, 2);
        }
        above.x.ask(0, 0, 18, Run.ADD, 1, 0);
        above.chooseWhatIsAsked();
        above.hand(Run.CHOSEN, 2);
        above.aboutIs("x = A - 1", 2, 4, 18);
        above.hand(Run.SNAPSHOT, 2);
        above.aboutIs("nothing changed", 2, 4, 18);
        above.aboutIs("nothing changed", 2, 5, 2);
        Check.due("nothing changed", above.x.number(2, 0), 18);
        Check.due("nothing changed", above.x.answer(2, 0, 0), 18);
    }

    private static void snapshotOneAhead() {
        Run run = snapshotBehindChosen();
        for (int slot = 1; slot <= 16; slot++) {
            run.hand(Run.CHOSEN, 2);
        }
        run.aboutIs("x = A + 1", 2, 4, 16);
        run.hand(Run.SNAPSHOT, 2);
        run.aboutIs("A is x", 2, 4, 17);
        run.aboutIs("BASE is x", 2, 5, 17);
        Check.same("nothing is KNOWN", run.knownUpTo(2, 40), "");
        Check.due("STATE", run.x.number(2, 0), 17);
        Check.due("clients", run.x.answer(2, 0, 0), 17);
        Check.due("clients", run.x.answer(2, 0, 1), 17);

        Run all = Run.ledBy0(7);
        all.x.key(31);
        all.x.ask(0, 7, 9, Run.PUT, -5, 0);
        all.chooseWhatIsAsked();
        all.x.key(0);
        all.x.ask(0, 6, 9, Run.TAKE, 0, 0);
        all.chooseWhatIsAsked();
        all.chooseWith1(1, 15);
        all.x.ask(0, 5, 1, Run.MEMBERS, 23, 0);
        all.chooseWhatIsAsked();
        all.dropAll();
        all.x.tick(3);
        all.hand(Run.HEART, 2);
        all.hand(Run.WANT, 0);
        all.hand(Run.SNAPSHOT, 2);
        all.aboutIs("A", 2, 4, 18);
        all.aboutIs("CONFIGS: two pairs", 2, 13, 2);
        all.aboutIs("CONFIGS: SLOT 19", 2, 6, 7);
        Check.due("the number at key 31", all.x.number(2, 31), -5);
        Check.due("the number at key 0", all.x.number(2, 0), 15);
        Check.due("none at key 1", all.x.number(2, 1), Run.NONE);
        Check.due("client 7", all.x.answer(2, 7, 0), 9);
        Check.due("client 6, RESULT", all.x.answer(2, 6, 1), Run.NONE);
        Check.due("client 5, RESULT", all.x.answer(2, 5, 1), 23);
        Check.due("client 4", all.x.answer(2, 4, 0), 0);
    }

    private static void snapshotForgets() {
        Run run = Run.ledBy0(7);
        for (int seq = 1; seq <= 17; seq++) {
            run.x.ask(0, 0, seq, Run.ADD, 1, 0);
            if (seq == 3 || seq == 17) {
                run.hand(Run.ACCEPT, 2);
            }
            run.chooseWhatIsAsked();
            if (seq == 5 || seq == 17) {
                run.hand(Run.CHOSEN, 2);
            }
            run.dropAll();
        }
        run.x.ask(0, 0, 18, Run.ADD, 1, 0);
        run.hand(Run.ACCEPT, 2);
        run.x.ask(0, 0, 19, Run.ADD, 1, 0);
        run.hand(Run.ACCEPT, 1);
        run.hand(Run.ACCEPT, 1);
        run.x.drop(run.find(Run.ACCEPTED, 0));
        run.x.drop(run.find(Run.ACCEPTED, 0));
        run.hand(Run.ACCEPTED, 0);
        run.hand(Run.CHOSEN, 2);
        run.dropAll();
        Check.same("KNOWN", run.knownUpTo(2, 40), "5:5 17:17 19:19");
        run.aboutIs("ACCEPTED SLOTS 3, 17 and 18", 2, 12, 3);
        run.x.tick(3);
        run.hand(Run.HEART, 2);
        run.hand(Run.WANT, 0);
        run.hand(Run.SNAPSHOT, 2);
        run.aboutIs("SLOT 18 is missing", 2, 4, 17);
        Check.same("SLOTS above 17 are KNOWN still", run.knownUpTo(2, 40), "19:19");
        run.aboutIs("SLOT 18 is ACCEPTED still", 2, 12, 1);
    }

    private static void snapshotAppliesWhatCanBe() {
        Run run = snapshotBehindChosen();
        run.x.ask(0, 0, 18, Run.ADD, 1, 0);
        run.chooseWhatIsAsked();
        run.x.drop(run.find(Run.ACCEPT, 2));
        run.x.ask(0, 0, 19, Run.ADD, 1, 0);
        run.chooseWhatIsAsked();
        run.x.drop(run.find(Run.ACCEPT, 2));
        handLast(run);
        handLast(run);
        Check.same("SLOTS 18 and 19 wait", run.knownUpTo(2, 40), "18:18 19:19");
        run.hand(Run.SNAPSHOT, 2);
        run.aboutIs("A", 2, 4, 19);
        run.aboutIs("BASE", 2, 5, 17);
        Check.due("all count", run.x.number(2, 0), 19);
        Check.same("SLOTS 18 and 19", run.knownUpTo(2, 40), "18:18 19:19");
    }

    private static void snapshotStaysAsItWas() {
        Run run = snapshotBehindChosen();
        run.x.ask(0, 0, 18, Run.PUT, 1000, 0);
        run.chooseWhatIsAsked();
        run.aboutIs("0 is further by now", 0, 4, 18);
        run.hand(Run.SNAPSHOT, 2);
        run.aboutIs("A", 2, 4, 17);
        Check.due("STATE of SLOT 17", run.x.number(2, 0), 17);
        Check.due("clients of SLOT 17", run.x.answer(2, 0, 0), 17);
        run.x.copy(run.find(Run.HEART, 1));
        Check.due("0 has its own", run.x.number(0, 0), 1000);
    }
}
