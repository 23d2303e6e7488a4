/** Promises 17 to 24, sentence by sentence. */
final class RollEdges {
    /** A THING that goes on and on: with SPEED 8 its GAIN is its DRAG. */
    private static final String ON_AND_ON = "thing(0, 10); put(0, 6); fall(6, 0); go(0); minutes(1); fall(6, 1); change(0, 2, 2)";
    private static final String OUT_AND_UP_AND_FOOT = "thing(0, 10); thing(0, 10); thing(0, 10); put(0, 5); fall(5, 9); ground(6, 3);"
        + " go(0); minutes(1); put(1, 30); wheel(2); put(2, 30)";

    private RollEdges() {
    }

    static void all(Edges e) {
        endsTells(e);
        endsBeyond(e);
        endsState(e);
        endsNone(e);
        takesTells(e);
        takesRefused(e);
        speedTells(e);
        speedRefused(e);
        seenTells(e);
        seenRefused(e);
        sandTells(e);
        sandBeyond(e);
        sandState(e);
        sandNone(e);
        rollsForTells(e);
        rollsForRefused(e);
        rollsForNone(e);
        mattersTells(e);
        mattersRefused(e);
        kindForTells(e);
        kindForCounts(e);
        kindForRefused(e);
    }

    private static int set(int... cells) {
        int s = 0;
        for (int c : cells) {
            s |= 1 << c;
        }
        return s;
    }

    /** The call with a THING that is not there, %d standing for its number. */
    private static void beyond(Edges e, String call) {
        e.town("");
        e.beyond(String.format(call, 0));
        e.town("thing(0, 10); thing(0, 10)");
        e.beyond(String.format(call, -1), String.format(call, 2));
        e.beyond(String.format(call, Integer.MIN_VALUE), String.format(call, Integer.MAX_VALUE));
    }

    /** The call with a THING that can't roll, and the last MINUTE in which one can. */
    private static void state(Edges e, String call, int inTime) {
        e.town(OUT_AND_UP_AND_FOOT);
        e.tells("are(2)", 1);
        e.tells("are(3)", 2);
        e.tells("on(30)", 4);
        e.state(String.format(call, 0), String.format(call, 1), String.format(call, 2));
        e.town("thing(0, 10); put(0, 29)");
        e.minute(9799);
        e.tells(String.format(call, 0), inTime);
        e.play("minutes(1)");
        e.state(String.format(call, 0));
        e.play("go(0)");
        e.state(String.format(call, 0));
    }

    private static void endsTells(Edges e) {
        e.says(17, "Where a ROLL ALONE of a THING ends: its CELL; -1: OUT.");
        e.town("thing(0, 10)");
        e.tells("ends(0)", 30);
        e.play("fall(0, -9)");
        e.tells("ends(0)", 0);
        e.play("fall(0, 2); ground(13, 3)");
        e.tells("ends(0)", -1);
        e.play("put(0, 29)");
        e.tells("ends(0)", 30);
        e.play("ground(30, 4)");
        e.tells("ends(0)", 29);
        e.play("ground(30, 3); fall(29, 9); change(0, 2, 9)");
        e.tells("ends(0)", 30);
        e.play("put(0, 12); go(0); minutes(1)");
        e.tells("ends(0)", 30);
    }

    private static void endsBeyond(Edges e) {
        e.says(17, "BEYOND.");
        beyond(e, "ends(%d)");
    }

    private static void endsState(Edges e) {
        e.says(17, "STATE: it is OUT, UP, or on THE FOOT, or MINUTE is above 9799.");
        state(e, "ends(%d)", 30);
    }

    private static void endsNone(Edges e) {
        e.says(17, "NONE: it is ROLLING still.");
        e.town(ON_AND_ON);
        e.none("ends(0)");
        e.play("change(0, 2, 3)");
        e.tells("ends(0)", 30);
        e.play("change(0, 2, 1)");
        e.tells("ends(0)", 6);
    }

    private static void takesTells(Edges e) {
        e.says(18, "How many MINUTES it takes.");
        e.town("thing(0, 10)");
        e.tells("takes(0)", 9);
        e.play("put(0, 29)");
        e.tells("takes(0)", 1);
        e.play("put(0, 0); ground(13, 3)");
        e.tells("takes(0)", 6);
        e.play("ground(3, 4)");
        e.tells("takes(0)", 2);
        e.play("fall(0, -9)");
        e.tells("takes(0)", 1);
        e.town("thing(0, 10); change(0, 2, 9); put(0, 6); fall(6, -1); go(0); minutes(1); fall(6, 3); change(0, 2, 1)");
        e.tells("of(0, 6)", 0);
        e.town("thing(0, 10); change(0, 2, 7); put(0, 6); fall(6, -1); go(0); minutes(1); fall(6, 3); change(0, 2, 1)");
        e.tells("of(0, 5)", 1);
        e.tells("takes(0)", 32);
    }

    private static void takesRefused(Edges e) {
        e.says(18, "BEYOND.");
        beyond(e, "takes(%d)");
        e.says(18, "STATE.");
        state(e, "takes(%d)", 1);
        e.says(18, "NONE likewise.");
        e.town(ON_AND_ON);
        e.none("takes(0)");
    }

    /** What it has in a MINUTE, but not as that ends, doesn't count: on THE FOOT, or ahead of a gate, SPEED is 0. */
    private static void speedTells(Edges e) {
        e.says(19, "The greatest SPEED on it (as each MINUTE ends, and as it is LET GO).");
        e.town("thing(0, 10)");
        e.tells("speed(0)", 58);
        e.play("put(0, 29)");
        e.tells("speed(0)", 10);
        e.play("put(0, 0); fall(0, 0)");
        e.tells("speed(0)", 10);
        e.play("fall(0, 9); ground(3, 4)");
        e.tells("speed(0)", 10);
        e.play("ground(3, 3)");
        e.tells("speed(0)", 44);
        e.town("thing(0, 10); change(0, 2, 9); fall(0, 9); fall(8, 9)");
        e.tells("speed(0)", 99);
        e.town(ON_AND_ON);
        e.tells("speed(0)", 8);
    }

    private static void speedRefused(Edges e) {
        e.says(19, "BEYOND.");
        beyond(e, "speed(%d)");
        e.says(19, "STATE.");
        state(e, "speed(%d)", 10);
    }

    private static void seenTells(Edges e) {
        e.says(20, "CELLS on which it is as a MINUTE ends, and its first one, as a set (31 bits; but that from which it is OUT).");
        e.town("thing(0, 10)");
        e.tells("seen(0)", set(0, 1, 3, 5, 8, 12, 16, 21, 26, 30));
        e.play("ground(13, 3)");
        e.tells("seen(0)", set(0, 1, 3, 5, 8, 12));
        e.play("fall(0, 9); ground(1, 3)");
        e.tells("seen(0)", set(0));
        e.play("fall(0, -9)");
        e.tells("seen(0)", set(0));
        e.play("put(0, 29)");
        e.tells("seen(0)", set(29, 30));
        e.town("thing(0, 10); go(0); minutes(2)");
        e.tells("seen(0)", set(3, 5, 8, 12, 16, 21, 26, 30));
        e.town("thing(0, 10); change(0, 2, 1)");
        e.tells("seen(0)", Integer.MAX_VALUE);
        e.town(ON_AND_ON);
        e.tells("seen(0)", set(6));
    }

    private static void seenRefused(Edges e) {
        e.says(20, "BEYOND.");
        beyond(e, "seen(%d)");
        e.says(20, "STATE.");
        state(e, "seen(%d)", set(29, 30));
    }

    /** With ROLLS 1 it goes a CELL a MINUTE, till there is sand: that ends it on the sand. */
    private static void sandTells(Edges e) {
        e.says(21, "The CELL on which SAND should be laid so that a ROLL ALONE ends on a CELL: the least.");
        e.town("thing(0, 10); change(0, 2, 1)");
        for (int c = 0; c < 30; c += 7) {
            e.tells("sand(0, " + c + ")", c);
        }
        e.tells("sand(0, 29)", 29);
        e.tells("sand(0, 30)", 30);
        e.play("put(0, 3)");
        e.tells("sand(0, 30)", 0);
        e.tells("sand(0, 3)", 3);
        e.play("ground(9, 1)");
        e.tells("sand(0, 9)", 0);
        e.tells("sand(0, 8)", 8);
        e.play("ground(9, 4); ground(3, 0)");
        e.tells("sand(0, 8)", 0);
        e.tells("sand(0, 9)", 9);
    }

    private static void sandBeyond(Edges e) {
        e.says(21, "BEYOND.");
        beyond(e, "sand(%d, 30)");
        e.beyond("sand(0, -1)", "sand(0, 31)", "sand(0, least)", "sand(0, most)");
    }

    private static void sandState(Edges e) {
        e.says(21, "STATE.");
        state(e, "sand(%d, 30)", 0);
    }

    private static void sandNone(Edges e) {
        e.says(21, "NONE.");
        e.town("thing(0, 10); change(0, 2, 1); put(0, 3)");
        e.none("sand(0, 0)", "sand(0, 2)");
        e.town("thing(0, 10)");
        e.none("sand(0, 1)");
        e.town(ON_AND_ON);
        e.none("sand(0, 5)", "sand(0, 7)");
        e.tells("sand(0, 6)", 6);
    }

    private static void rollsForTells(Edges e) {
        e.says(22, "The least ROLLS (1 to 9) with which it comes to THE FOOT.");
        e.town("thing(0, 10)");
        e.tells("rollsFor(0)", 1);
        e.play("fall(0, 1)");
        e.tells("rollsFor(0)", 2);
        e.play("change(0, 0, 1)");
        e.tells("rollsFor(0)", 1);
        e.play("fall(0, 2); ground(0, 1); fall(0, 1); change(0, 0, 3); change(0, 1, 19)");
        e.tells("rollsFor(0)", 9);
        e.tells("of(0, 2)", 4);
        e.town("thing(0, 10); change(0, 2, 9); fall(0, 9); ground(1, 3)");
        e.tells("ends(0)", -1);
        e.tells("rollsFor(0)", 1);
    }

    private static void rollsForRefused(Edges e) {
        e.says(22, "BEYOND.");
        beyond(e, "rollsFor(%d)");
        e.says(22, "STATE.");
        state(e, "rollsFor(%d)", 1);
    }

    private static void rollsForNone(Edges e) {
        e.says(22, "NONE.");
        e.town("thing(0, 10); fall(0, 1); ground(0, 1)");
        e.none("rollsFor(0)");
        e.town("thing(6, 10)");
        e.none("rollsFor(0)");
        e.town("thing(0, 10); ground(30, 4); gate(1, 59)");
        e.none("rollsFor(0)");
    }

    private static void mattersTells(Edges e) {
        e.says(23, "CELLS which, if GROUND 0 were laid there, would make it end elsewhere than as it is (on another CELL; OUT, or not), as a set.");
        e.town("thing(0, 10)");
        e.tells("matters(0)", 0);
        e.play("ground(13, 3)");
        e.tells("matters(0)", set(13));
        e.play("ground(5, 1)");
        e.tells("ends(0)", 30);
        e.tells("matters(0)", set(5));
        e.tells("ground(5, 1)", 1);
        e.town("thing(0, 10); change(0, 2, 1); ground(9, 1); ground(10, 1)");
        e.tells("matters(0)", set(9));
        e.play("ground(0, 2)");
        e.tells("matters(0)", set(0));
        e.town("thing(0, 10); put(0, 29); ground(30, 4)");
        e.tells("matters(0)", set(30));
        e.town(ON_AND_ON);
        e.tells("matters(0)", 0);
    }

    private static void mattersRefused(Edges e) {
        e.says(23, "BEYOND.");
        beyond(e, "matters(%d)");
        e.says(23, "STATE.");
        state(e, "matters(%d)", 0);
    }

    private static void kindForTells(Edges e) {
        e.says(24, "The KIND as one of which it comes farthest");
        e.town("thing(6, 10)");
        e.tells("kindFor(0)", 0);
        e.play("ground(13, 3)");
        e.tells("kindFor(0)", 3);
        e.tells("of(0, 0)", 6);
        e.town("thing(0, 10); fall(0, 0)");
        e.tells("kindFor(0)", 1);
        e.town("thing(0, 10); fall(0, 0); ground(0, 3)");
        e.tells("kindFor(0)", 5);
        e.town("thing(0, 10); fall(0, 1); ground(0, 2); change(0, 2, 9); change(0, 1, 1)");
        e.tells("kindFor(0)", 0);
        e.play("fall(0, 2)");
        e.tells("kindFor(0)", 5);
        e.play("fall(0, 3); ground(3, 3)");
        e.tells("kindFor(0)", 4);
    }

    private static void kindForCounts(Edges e) {
        e.says(24, "(OUT counts as -1, ROLLING still as its CELL).");
        e.town("thing(0, 10); change(0, 2, 9); fall(0, 9); ground(1, 3)");
        e.tells("kindFor(0)", 6);
        e.town(ON_AND_ON + "; ground(7, 2); fall(7, -9); change(0, 0, 6)");
        e.tells("ends(0)", 6);
        e.tells("kindFor(0)", 1);
        e.play("fall(6, 0); change(0, 0, 1)");
        e.none("ends(0)");
        e.play("change(0, 1, 9)");
        e.tells("kindFor(0)", 5);
    }

    private static void kindForRefused(Edges e) {
        e.says(24, "BEYOND.");
        beyond(e, "kindFor(%d)");
        e.says(24, "STATE.");
        state(e, "kindFor(%d)", 0);
    }
}
