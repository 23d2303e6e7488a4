/** Promises 1 to 11, sentence by sentence. */
final class LaneEdges {
    private LaneEdges() {
    }

    static void all(Edges e) {
        newAllAsAtFirst(e);
        newWithoutThings(e);
        newWithEmptyTape(e);
        newWithoutImage(e);
        fallBecomes(e);
        fallBeyond(e);
        groundBecomes(e);
        groundBeyond(e);
        gateBecomes(e);
        gateBeyond(e);
        shutTells(e);
        shutBeyond(e);
        thingGetsNumber(e);
        thingBeyond(e);
        thingFull(e);
        ofTells(e);
        ofBeyond(e);
        changeBecomes(e);
        changeBeyond(e);
        toldTells(e);
        toldBeyond(e);
        goLetsGo(e);
        goBeyond(e);
        goState(e);
        putFromAnywhere(e);
        putBeyond(e);
    }

    private static void newAllAsAtFirst(Edges e) {
        e.says(1, "All as at first;");
        int[] counts = {0, 0, 0, 0, 31, 0, 1, 0};
        for (int what = 0; what < counts.length; what++) {
            e.tells("count(" + what + ")", counts[what]);
        }
        for (int which = -1; which < 7; which++) {
            e.tells("status(" + which + ")", 0);
        }
        for (int c = 0; c < 31; c++) {
            e.due("fall(" + c + ", 1)", 2);
            e.due("ground(" + c + ", 1)", 0);
        }
        e.due("gate(0, 5)", 0);
        e.due("gate(1, 5)", 14);
        e.missing("as(0, 0)", "as(9, 0)", "write(0, 0, 0)", "write(1, 0, 0)", "write(2, 0, 0)", "write(3, 0, 0)");
    }

    private static void newWithoutThings(Edges e) {
        e.says(1, "no THINGS;");
        e.tells("count(1)", 0);
        for (int state = 0; state < 4; state++) {
            e.tells("are(" + state + ")", 0);
        }
        e.tells("on(0)", 0);
        e.tells("come()", 0);
        e.tells("waits()", 0);
        e.tells("least()", 0);
        e.due("wheel(999)", 0);
        e.due("minutes(120)", 0);
        e.beyond("of(0, 0)", "go(0)", "put(0, 0)", "hold(0, 0)", "ahead(0, 4)", "pack(1)", "ends(0)");
        e.none("meet()", "worst()", "order(0)");
    }

    private static void newWithEmptyTape(Edges e) {
        e.says(1, "THE TAPE is empty,");
        e.tells("count(5)", 0);
        e.due("wipe()", 0);
        e.due("text()", -1);
        e.due("feed(0, 1)", 1);
    }

    private static void newWithoutImage(Edges e) {
        e.says(1, "no image is kept.");
        e.none("undo()");
        e.due("tear()", 0);
    }

    private static void fallBecomes(Edges e) {
        e.says(2, "FALL of a CELL becomes v: what it was.");
        e.due("fall(0, 9)", 2);
        e.due("fall(0, -9)", 9);
        e.due("fall(0, 0)", -9);
        e.due("fall(30, -1)", 2);
        e.due("fall(30, -1)", -1);
        e.due("fall(1, 2)", 2);
        e.due("fall(29, 2)", 2);
        e.due("fall(0, 1)", 0);
    }

    private static void fallBeyond(Edges e) {
        e.says(2, "BEYOND.");
        e.beyond("fall(-1, 0)", "fall(31, 0)", "fall(least, 0)", "fall(most, 0)");
        e.beyond("fall(0, -10)", "fall(0, 10)", "fall(0, least)", "fall(0, most)", "fall(31, 10)");
    }

    private static void groundBecomes(Edges e) {
        e.says(3, "GROUND of a CELL becomes v: what it was.");
        for (int v = 1; v < 5; v++) {
            e.due("ground(0, " + v + ")", v - 1);
            e.due("ground(30, " + v + ")", v - 1);
        }
        e.due("ground(0, 0)", 4);
        e.due("ground(1, 0)", 0);
        e.tells("count(4)", 30);
    }

    private static void groundBeyond(Edges e) {
        e.says(3, "BEYOND.");
        e.beyond("ground(-1, 0)", "ground(31, 0)", "ground(least, 0)", "ground(most, 0)");
        e.beyond("ground(0, -1)", "ground(0, 5)", "ground(0, least)", "ground(0, most)", "ground(31, 5)");
    }

    private static void gateBecomes(Edges e) {
        e.says(4, "FIRST (what 0), LAST (1) of SHUT becomes v: what it was.");
        e.due("gate(0, 59)", 0);
        e.due("gate(1, 0)", 14);
        e.due("gate(0, 0)", 59);
        e.due("gate(1, 59)", 0);
        e.due("gate(0, 1)", 0);
        e.due("gate(1, 1)", 59);
    }

    private static void gateBeyond(Edges e) {
        e.says(4, "BEYOND.");
        e.beyond("gate(-1, 0)", "gate(2, 0)", "gate(least, 0)", "gate(most, 0)");
        e.beyond("gate(0, -1)", "gate(0, 60)", "gate(1, -1)", "gate(1, 60)", "gate(0, least)", "gate(1, most)");
    }

    private static void shutTells(Edges e) {
        e.says(5, "Whether GATES are SHUT in a MINUTE (0 to 9999): 1, 0.");
        e.tells("shut(0)", 1);
        e.tells("shut(14)", 1);
        e.tells("shut(15)", 0);
        e.tells("shut(9974)", 1);
        e.tells("shut(9975)", 0);
        e.tells("shut(9999)", 0);
        e.play("gate(1, 39); minutes(45)");
        e.tells("shut(9999)", 1);
        e.tells("shut(0)", 1);
    }

    private static void shutBeyond(Edges e) {
        e.says(5, "BEYOND.");
        e.beyond("shut(-1)", "shut(10000)", "shut(least)", "shut(most)");
    }

    private static void thingGetsNumber(Edges e) {
        e.says(6, "A new THING: its number.");
        for (int i = 0; i < 10; i++) {
            e.due("thing(" + i % 7 + ", " + (i == 0 ? 1 : 90 + i) + ")", i);
        }
        e.tells("count(1)", 10);
        e.tells("of(0, 1)", 1);
        e.tells("of(6, 0)", 6);
        e.tells("of(9, 1)", 99);
        e.tells("of(9, 4)", 0);
        e.tells("of(9, 6)", 0);
    }

    private static void thingBeyond(Edges e) {
        e.says(6, "BEYOND.");
        e.beyond("thing(-1, 10)", "thing(7, 10)", "thing(least, 10)", "thing(most, 10)");
        e.beyond("thing(0, 0)", "thing(0, 100)", "thing(0, -1)", "thing(0, least)", "thing(0, most)");
    }

    private static void thingFull(Edges e) {
        e.says(6, "FULL.");
        for (int i = 0; i < 9; i++) {
            e.play("thing(0, 10)");
        }
        e.due("thing(0, 10)", 9);
        e.full("thing(0, 10)", "thing(6, 99)");
        e.beyond("thing(0, 100)");
    }

    private static void ofTells(Edges e) {
        e.says(7, "Of a THING: what 0 KIND, 1 WEIGHT, 2 ROLLS, 3 LEAN, 4 CELL, 5 SPEED, 6 its state (0 to 3), 7 DAMAGE, 8 TOP.");
        e.town("thing(4, 33); change(0, 2, 5); change(0, 3, 6); thing(0, 99); put(0, 4); put(1, 5); change(1, 3, 9)");
        e.play("go(0); fall(4, 2)");
        ofIs(e, 0, 4, 33, 5, 6, 4, 10, 1, 0, 22);
        e.play("minutes(1)");
        ofIs(e, 0, 4, 33, 5, 6, 5, 0, 0, 1, 22);
        ofIs(e, 1, 0, 99, 4, 9, 5, 0, 0, 1, 40);
        e.play("put(1, 30); wheel(10); fall(5, 9); ground(6, 3); go(0); minutes(1)");
        ofIs(e, 0, 4, 33, 5, 6, 6, 47, 2, 1, 22);
        ofIs(e, 1, 0, 99, 4, 9, 30, 0, 3, 1, 40);
    }

    private static void ofIs(Edges e, int thing, int... want) {
        for (int what = 0; what < want.length; what++) {
            e.tells("of(" + thing + ", " + what + ")", want[what]);
        }
    }

    private static void ofBeyond(Edges e) {
        e.says(7, "BEYOND.");
        e.beyond("of(0, 0)");
        e.town("thing(0, 10); thing(0, 10)");
        e.beyond("of(-1, 0)", "of(2, 0)", "of(least, 0)", "of(most, 0)");
        e.beyond("of(0, -1)", "of(0, 9)", "of(1, least)", "of(1, most)");
    }

    private static void changeBecomes(Edges e) {
        e.says(8, "KIND (what 0), WEIGHT (1), ROLLS (2), LEAN (3) of a THING becomes v: what it was.");
        e.town("thing(3, 50); thing(3, 50)");
        int[] was = {3, 50, 4, 0};
        int[] low = {0, 1, 1, 0};
        int[] high = {6, 99, 9, 9};
        for (int what = 0; what < 4; what++) {
            e.due("change(0, " + what + ", " + low[what] + ")", was[what]);
            e.tells("of(0, " + what + ")", low[what]);
            e.due("change(0, " + what + ", " + high[what] + ")", low[what]);
            e.tells("of(0, " + what + ")", high[what]);
            e.tells("of(1, " + what + ")", was[what]);
        }
        e.play("put(1, 30); wheel(999); go(0)");
        e.due("change(1, 1, 7)", 50);
        e.due("change(0, 0, 5)", 6);
        e.tells("of(0, 6)", 1);
        e.tells("of(1, 6)", 3);
    }

    private static void changeBeyond(Edges e) {
        e.says(8, "BEYOND.");
        e.beyond("change(0, 0, 0)");
        e.town("thing(0, 10)");
        e.beyond("change(-1, 0, 0)", "change(1, 0, 0)", "change(least, 0, 0)", "change(most, 0, 0)");
        e.beyond("change(0, -1, 1)", "change(0, 4, 1)", "change(0, least, 1)", "change(0, most, 1)");
        e.beyond("change(0, 0, -1)", "change(0, 0, 7)", "change(0, 1, 0)", "change(0, 1, 100)");
        e.beyond("change(0, 2, 0)", "change(0, 2, 10)", "change(0, 3, -1)", "change(0, 3, 10)");
        e.beyond("change(0, 0, least)", "change(0, 1, most)", "change(0, 2, least)", "change(0, 3, most)");
    }

    private static void toldTells(Edges e) {
        e.says(9, "What a THING would gain (what 0: GAIN; 1: DRAG) on a CELL.");
        e.town("thing(0, 10); fall(0, 9); fall(30, -9); ground(0, 2); ground(30, 3)");
        e.tells("told(0, 0, 0)", 36);
        e.tells("told(0, 1, 0)", 30);
        e.tells("told(0, 0, 30)", -36);
        e.tells("told(0, 1, 30)", 4);
        e.tells("told(0, 0, 15)", 8);
        e.tells("told(0, 1, 15)", 2);
        e.play("put(0, 30); wheel(9)");
        e.tells("told(0, 0, 0)", 36);
    }

    private static void toldBeyond(Edges e) {
        e.says(9, "BEYOND.");
        e.beyond("told(0, 0, 0)");
        e.town("thing(0, 10)");
        e.beyond("told(-1, 0, 0)", "told(1, 0, 0)", "told(least, 0, 0)", "told(most, 0, 0)");
        e.beyond("told(0, -1, 0)", "told(0, 2, 0)", "told(0, least, 0)", "told(0, most, 0)");
        e.beyond("told(0, 0, -1)", "told(0, 0, 31)", "told(0, 1, -1)", "told(0, 1, 31)", "told(0, 1, least)", "told(0, 0, most)");
    }

    private static void goLetsGo(Edges e) {
        e.says(10, "A THING is LET GO: its CELL.");
        e.town("thing(0, 10); thing(0, 10); put(1, 29)");
        e.due("go(0)", 0);
        e.due("go(1)", 29);
        e.tells("are(1)", 3);
        e.tells("of(0, 5)", 10);
        e.tells("of(1, 5)", 10);
        e.tells("of(1, 4)", 29);
        e.tells("count(0)", 0);
    }

    private static void goBeyond(Edges e) {
        e.says(10, "BEYOND.");
        e.beyond("go(0)");
        e.town("thing(0, 10)");
        e.beyond("go(-1)", "go(1)", "go(least)", "go(most)");
    }

    private static void goState(Edges e) {
        e.says(10, "STATE: it isn't AT REST, or on THE FOOT.");
        e.town("thing(0, 10); go(0)");
        e.state("go(0)");
        e.play("put(0, 30)");
        e.state("go(0)");
        e.play("wheel(2)");
        e.state("go(0)");
        e.play("put(0, 0); ground(1, 3); fall(0, 9); go(0); minutes(1)");
        e.tells("are(2)", 1);
        e.state("go(0)");
    }

    private static void putFromAnywhere(Edges e) {
        e.says(11, "A THING is put AT REST on a CELL (from anywhere): where it was.");
        e.town("thing(0, 10); thing(0, 10)");
        e.due("put(0, 0)", 0);
        e.due("put(0, 29)", 0);
        e.play("go(0)");
        e.due("put(0, 29)", 29);
        e.tells("of(0, 5)", 0);
        e.tells("of(0, 6)", 0);
        e.due("put(0, 30)", 29);
        e.play("wheel(2)");
        e.due("put(0, 0)", 30);
        e.tells("of(0, 6)", 0);
        e.play("ground(2, 3); fall(0, 9); go(0); minutes(1)");
        e.tells("of(0, 6)", 2);
        e.due("put(0, 7)", 2);
        e.tells("of(0, 4)", 7);
        e.tells("of(0, 5)", 0);
        e.tells("of(0, 6)", 0);
        e.tells("of(1, 4)", 0);
    }

    private static void putBeyond(Edges e) {
        e.says(11, "BEYOND.");
        e.beyond("put(0, 0)");
        e.town("thing(0, 10)");
        e.beyond("put(-1, 0)", "put(1, 0)", "put(least, 0)", "put(most, 0)");
        e.beyond("put(0, -1)", "put(0, 31)", "put(0, least)", "put(0, most)");
    }
}
