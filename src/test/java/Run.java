/** A store with what many tests do to it. */
final class Run {
    static final int PREPARE = 1;
    static final int PROMISE = 2;
    static final int REJECT = 3;
    static final int ACCEPT = 4;
    static final int ACCEPTED = 5;
    static final int HEART = 6;
    static final int WANT = 7;
    static final int CHOSEN = 8;
    static final int SNAPSHOT = 9;
    static final int PUT = 1;
    static final int TAKE = 2;
    static final int ADD = 3;
    static final int SWAP = 4;
    static final int GET = 5;
    static final int MEMBERS = 6;
    static final long NONE = 1099511627776L;

    final Limited x;

    Run(int members) {
        x = new Limited(members);
    }

    /** NODE 0 LEADS with BALLOT 8, all members granted it, and nothing is on its way. */
    static Run ledBy0(int members) {
        Run run = new Run(members);
        run.x.tick(8);
        run.settle();
        return run;
    }

    /** 0 LEADS; SLOTS 1 .. 4 are proposed for seqs 1 .. 4 of client 0, and so many more are in the QUEUE. */
    static Run queueOf(int size) {
        Run run = ledBy0(7);
        for (int seq = 1; seq <= 4 + size; seq++) {
            Check.due("ask", run.x.ask(0, 0, seq, ADD, 1, 0), 0);
        }
        run.aboutIs("QUEUE", 0, 9, size);
        run.aboutIs("PROPOSALS", 0, 11, 4);
        return run;
    }

    /** SLOT 5 has members 0, 3 and 4, SLOT 6 those of before: 0 has a MAJORITY of SLOTS 3, 4 and 6, not of SLOT 5. */
    static Run slot5HasOthers() {
        Run run = ledBy0(7);
        run.x.ask(0, 1, 1, MEMBERS, 25, 0);
        run.chooseWhatIsAsked();
        run.x.ask(0, 1, 2, MEMBERS, 7, 0);
        run.chooseWhatIsAsked();
        run.dropAll();
        run.aboutIs("pairs", 0, 13, 3);
        return run;
    }

    /** 1 ACCEPTED SLOT 4 alone of four, and 0 fell: 2 LEADS with 18 and proposes NOTHING three times before it. */
    static Run nothingInThreeSlots() {
        Run run = ledBy0(7);
        for (int seq = 1; seq <= 4; seq++) {
            run.x.ask(0, 0, seq, ADD, seq, 0);
        }
        run.x.deliver(6);
        run.dropAll();
        run.x.fall(0);
        run.x.tick(6);
        run.hand(PREPARE, 1);
        run.hand(PROMISE, 2);
        return run;
    }

    /** 0 LEADS with 8 and 2 with 18; HEARTS and PREPARES of both are on their way. */
    static Run rivals() {
        Run run = new Run(7);
        run.x.tick(8);
        run.hand(PREPARE, 2);
        run.x.fall(1);
        run.x.tick(6);
        run.x.rise(1);
        run.dropAll();
        run.x.tick(3);
        run.wireIs("HEARTS and PREPARES", "6:0>1(8,0) 1:0>1(8,0) 6:0>2(8,0) 1:0>2(8,0)"
            + " 6:2>0(18,0) 1:2>0(18,0) 6:2>1(18,0) 1:2>1(18,0)");
        return run;
    }

    /** Delivers from the front until nothing is on its way. */
    void settle() {
        for (int i = 0; i < 10000 && x.count(0) > 0; i++) {
            x.deliver(0);
        }
    }

    /** Delivers from the front until only MESSAGES of that kind are on their way. */
    void settleBut(int kind) {
        int k = 0;
        for (int i = 0; i < 10000 && k < x.count(0); i++) {
            if (x.message(k, 0) == kind) {
                k++;
            } else {
                x.deliver(k);
            }
        }
    }

    /** Client 0 asks 0 for ADDS of 1; 0 and 1 choose and apply them, the other MESSAGES are lost. */
    void chooseWith1(int firstSeq, int lastSeq) {
        for (int seq = firstSeq; seq <= lastSeq; seq++) {
            Check.due("ask", x.ask(0, 0, seq, ADD, 1, 0), 0);
            chooseWhatIsAsked();
            dropAll();
        }
    }

    /** 1 helps 0 to choose its PROPOSAL, and hears that it is chosen. */
    void chooseWhatIsAsked() {
        hand(ACCEPT, 1);
        hand(ACCEPTED, 0);
        hand(CHOSEN, 1);
    }

    /** Client 0 asks 0, which is alone, for ADDS of 1. */
    void chooseAlone(int firstSeq, int lastSeq) {
        for (int seq = firstSeq; seq <= lastSeq; seq++) {
            Check.due("ask", x.ask(0, 0, seq, ADD, 1, 0), 0);
        }
    }

    /** The first MESSAGE comes again and again until so many are on their way. */
    void fillUpTo(int size) {
        for (int there = x.count(0); there < size; there++) {
            x.copy(0);
        }
    }

    void dropAll() {
        for (int i = 0; i < 300 && x.count(0) > 0; i++) {
            x.drop(0);
        }
    }

    void dropAllBut(int kind) {
        for (int k = x.count(0) - 1; k >= 0; k--) {
            if (x.message(k, 0) != kind) {
                x.drop(k);
            }
        }
    }

    /** Where the first MESSAGE of that kind to that NODE is; -1: there is none. */
    int find(int kind, int to) {
        for (int k = 0; k < x.count(0); k++) {
            if (x.message(k, 0) == kind && x.message(k, 2) == to) {
                return k;
            }
        }
        return -1;
    }

    /** Delivers the first MESSAGE of that kind to that NODE. */
    void hand(int kind, int to) {
        int k = find(kind, to);
        if (k < 0) {
            Check.same("a message of kind " + kind + " to " + to, "none", "one");
        } else {
            x.deliver(k);
        }
    }

    /** The MESSAGES on their way, each as kind:from>to(BALLOT,SLOT). */
    String wire() {
        StringBuilder text = new StringBuilder();
        for (int k = 0; k < x.count(0); k++) {
            text.append(k == 0 ? "" : " ").append(x.message(k, 0)).append(':').append(x.message(k, 1)).append('>')
                .append(x.message(k, 2)).append('(').append(x.message(k, 3)).append(',').append(x.message(k, 4))
                .append(')');
        }
        return text.toString();
    }

    /** The SLOTS up to that one that the NODE KNOWS a VALUE for, each with its seq. */
    String knownUpTo(int node, int last) {
        StringBuilder text = new StringBuilder();
        for (int slot = 0; slot <= last; slot++) {
            int t = slot;
            String seq = Check.outcome(() -> x.known(node, t, 2));
            if (!seq.equals(Check.NO_ELEMENT)) {
                text.append(text.length() == 0 ? "" : " ").append(t).append(':').append(seq);
            }
        }
        return text.toString();
    }

    void wireIs(String what, String want) {
        Check.same(what, wire(), want);
    }

    void aboutIs(String what, int node, int about, int want) {
        Check.due(what + ": about(" + node + ", " + about + ")", x.about(node, about), want);
    }

    /** All that the face can tell without changing anything, but for VALUES that are KNOWN. */
    String sight() {
        StringBuilder text = new StringBuilder(wire());
        for (int what = 0; what < 4; what++) {
            text.append(' ').append(x.count(what));
        }
        for (int node = 0; node < 7; node++) {
            for (int what = 0; what < 14; what++) {
                text.append(' ').append(x.about(node, what));
            }
            for (int key = 0; key < 32; key++) {
                text.append(' ').append(x.number(node, key));
            }
            for (int client = 0; client < 8; client++) {
                text.append(' ').append(x.answer(node, client, 0)).append(' ').append(x.answer(node, client, 1));
            }
        }
        return text.toString();
    }

    /** The call throws that, and nothing that can be seen has changed. */
    void refuses(String what, Check.Call call, String want) {
        String before = sight();
        Check.isThrown(what, call, want);
        Check.same(what + " changed nothing", sight().equals(before) ? "yes" : "no", "yes");
    }
}
