/** Promises 12 to 16, and what a MINUTE is. */
public final class MinutesTest {
    /** CELLS and SPEEDS of a THING let go on CELL 0 of a new lane, as each MINUTE ends. */
    private static final int[] CELLS = {1, 3, 5, 8, 12, 16, 21, 26, 30};
    private static final int[] SPEEDS = {16, 22, 28, 34, 40, 46, 52, 58, 0};

    public static void main(String[] args) {
        Due due = new Due("Minutes");
        aRoll(due);
        speedHasBounds(due);
        gates(due);
        bends(due);
        meetings(due);
        noMeetings(due);
        minutesHaveAnEnd(due);
        are(due);
        on(due);
        ahead(due);
        meet(due);
        due.end();
    }

    private static RollTown with(int things) {
        RollTown x = new RollTown();
        for (int i = 0; i < things; i++) {
            x.thing(0, 10);
        }
        return x;
    }

    private static void aRoll(Due due) {
        RollTown x = with(1);
        x.go(0);
        for (int i = 0; i < CELLS.length; i++) {
            due.is("12: minutes(1)", x.minutes(1), 0);
            due.is("12: cell", x.of(0, 4), CELLS[i]);
            due.is("12: speed", x.of(0, 5), SPEEDS[i]);
            due.is("12: state", x.of(0, 6), i < 8 ? 1 : 0);
            due.is("12: minute", x.count(0), i + 1);
        }
        due.is("12: minutes(0)", x.minutes(0), Due.BEYOND);
        due.is("12: minutes(-1)", x.minutes(-1), Due.BEYOND);
        due.is("12: minutes(121)", x.minutes(121), Due.BEYOND);
        due.is("12: minute stays", x.count(0), 9);
        due.is("12: minutes(120)", x.minutes(120), 0);
        due.is("12: minute", x.count(0), 129);
    }

    private static void speedHasBounds(Due due) {
        RollTown x = with(1);
        x.change(0, 2, 9);
        x.fall(0, 9);
        x.fall(8, 9);
        x.go(0);
        x.minutes(1);
        due.is("12: cell", x.of(0, 4), 8);
        due.is("12: speed", x.of(0, 5), 89);
        x.minutes(1);
        due.is("12: cell at most 9 on", x.of(0, 4), 17);
        due.is("12: speed at most 99", x.of(0, 5), 99);
        x.put(0, 3);
        x.fall(3, 0);
        x.go(0);
        x.minutes(1);
        due.is("12: too slow to go on", x.of(0, 4), 3);
        due.is("12: rolling still", x.of(0, 6), 1);
        due.is("12: speed 8", x.of(0, 5), 8);
        x.fall(3, -9);
        x.minutes(1);
        due.is("12: speed not below 0", x.of(0, 5), 0);
        due.is("12: at rest", x.of(0, 6), 0);
    }

    private static void gates(Due due) {
        RollTown x = with(1);
        x.ground(3, 4);
        x.go(0);
        due.is("12: minutes(2)", x.minutes(2), 0);
        due.is("12: ahead of a shut gate", x.of(0, 4), 2);
        due.is("12: speed", x.of(0, 5), 0);
        due.is("12: at rest", x.of(0, 6), 0);
        x.minutes(13);
        x.go(0);
        x.minutes(1);
        due.is("12: in MINUTE 15 it is open", x.of(0, 4), 3);
        x.put(0, 2);
        x.minutes(44);
        due.is("12: minute", x.count(0), 60);
        x.go(0);
        x.minutes(1);
        due.is("12: in MINUTE 60 it is shut", x.of(0, 4), 2);
        x.put(0, 3);
        x.go(0);
        x.minutes(1);
        due.is("12: one on a shut gate goes on", x.of(0, 4), 4);
        x.ground(30, 4);
        x.put(0, 29);
        x.go(0);
        x.minutes(1);
        due.is("12: a gate on THE FOOT", x.of(0, 4), 29);
    }

    private static void bends(Due due) {
        RollTown x = with(1);
        x.ground(9, 3);
        x.go(0);
        due.is("12: SPEED 40 isn't above TOP", x.minutes(9), 0);
        due.is("12: it came to THE FOOT", x.of(0, 4), 30);
        x.put(0, 0);
        x.ground(13, 3);
        x.go(0);
        due.is("12: one comes OUT", x.minutes(20), 1);
        due.is("12: where", x.of(0, 4), 13);
        due.is("12: with what SPEED", x.of(0, 5), 46);
        due.is("12: state", x.of(0, 6), 2);
        due.is("12: one OUT comes OUT once", x.minutes(3), 0);
        x.put(0, 13);
        x.fall(13, 9);
        x.change(0, 2, 9);
        x.go(0);
        due.is("12: a BEND from which it starts", x.minutes(1), 0);
        due.is("12: cell", x.of(0, 4), 21);
        x.ground(30, 3);
        due.is("12: a BEND on THE FOOT", x.minutes(5), 0);
        due.is("12: at rest there", x.are(0), 1);
        x.fall(13, 2);
        x.ground(14, 3);
        x.change(0, 0, 2);
        x.change(0, 3, 9);
        x.put(0, 13);
        x.fall(13, 3);
        x.go(0);
        due.is("12: a DRUM that leans is OUT at 14", x.minutes(1), 1);
        due.is("12: TOP of it", x.of(0, 8), 13);
    }

    private static void meetings(Due due) {
        RollTown x = with(4);
        x.put(1, 5);
        x.go(0);
        due.is("12: two MEET", x.minutes(3), 2);
        for (int i = 0; i < 2; i++) {
            due.is("12: at rest", x.of(i, 6), 0);
            due.is("12: speed", x.of(i, 5), 0);
            due.is("12: cell", x.of(i, 4), 5);
            due.is("12: damage", x.of(i, 7), 1);
        }
        x.put(2, 0);
        x.go(2);
        due.is("12: three MEET", x.minutes(10), 3);
        due.is("12: damage of all", x.count(2), 5);
        x.put(0, 0);
        x.put(1, 0);
        x.put(2, 30);
        x.go(0);
        x.go(1);
        due.is("12: both let go at once MEET on 1", x.minutes(1), 2);
        due.is("12: each once for each time", x.on(1), 3);
        x.put(0, 0);
        x.put(1, 2);
        x.gate(1, 59);
        x.ground(3, 4);
        x.go(0);
        due.is("12: one that a gate stops MEETS too", x.minutes(2), 2);
        x.put(3, 2);
        x.fall(2, 0);
        x.go(3);
        due.is("12: one that does not get away MEETS those there", x.minutes(1), 3);
        x.put(3, 0);
        x.ground(3, 3);
        x.fall(0, 9);
        x.change(3, 2, 9);
        x.put(0, 3);
        x.go(3);
        due.is("12: one that comes OUT there does not", x.minutes(1), 1);
    }

    private static void noMeetings(Due due) {
        RollTown x = with(3);
        x.put(1, 7);
        x.put(2, 7);
        due.is("12: those AT REST don't MEET", x.minutes(5), 0);
        x.put(1, 2);
        x.put(2, 4);
        x.go(0);
        due.is("12: nor does one that goes past", x.minutes(120), 0);
        x.fall(0, 0);
        x.put(0, 0);
        x.put(1, 0);
        x.go(0);
        due.is("12: nor any on CELL 0", x.minutes(1), 0);
        due.is("12: rolling there", x.are(1), 1);
        x.put(0, 29);
        x.put(1, 30);
        x.go(0);
        due.is("12: nor on THE FOOT", x.minutes(1), 0);
        due.is("12: both there", x.on(30), 3);
        due.is("12: no damage", x.count(2), 0);
        x.put(0, 5);
        x.put(1, 5);
        x.go(0);
        due.is("12: one that goes away has not MET", x.minutes(1), 0);
    }

    private static void minutesHaveAnEnd(Due due) {
        RollTown x = with(1);
        for (int i = 0; i < 83; i++) {
            x.minutes(120);
        }
        due.is("12: minutes(40)", x.minutes(40), Due.STATE);
        due.is("12: minutes(121)", x.minutes(121), Due.BEYOND);
        due.is("12: minute", x.count(0), 9960);
        due.is("15: ahead(40, 0)", x.ahead(40, 0), Due.STATE);
        due.is("15: ahead(40, 5)", x.ahead(40, 5), Due.BEYOND);
        due.is("15: ahead(39, 0)", x.ahead(39, 0), 0);
        due.is("12: minutes(39)", x.minutes(39), 0);
        due.is("12: minutes(1)", x.minutes(1), Due.STATE);
        due.is("12: minute", x.count(0), 9999);
        due.is("15: ahead(0, 4)", x.ahead(0, 4), 0);
        due.is("15: ahead(1, 4)", x.ahead(1, 4), Due.STATE);
    }

    private static void are(Due due) {
        RollTown x = with(4);
        x.go(1);
        x.put(2, 30);
        x.wheel(9);
        x.ground(6, 3);
        x.put(3, 5);
        x.fall(5, 9);
        x.go(3);
        x.minutes(1);
        due.is("13: are(0)", x.are(0), 1);
        due.is("13: are(1)", x.are(1), 2);
        due.is("13: are(2)", x.are(2), 8);
        due.is("13: are(3)", x.are(3), 4);
        due.is("13: are(4)", x.are(4), Due.BEYOND);
        due.is("13: are(-1)", x.are(-1), Due.BEYOND);
    }

    private static void on(Due due) {
        RollTown x = with(4);
        x.put(3, 30);
        due.is("14: on(0)", x.on(0), 7);
        due.is("14: on(30)", x.on(30), 8);
        due.is("14: on(1)", x.on(1), 0);
        x.wheel(9);
        due.is("14: one UP isn't on it", x.on(30), 0);
        x.go(1);
        due.is("14: one ROLLING is", x.on(0), 7);
        x.minutes(1);
        due.is("14: on(1)", x.on(1), 2);
        x.ground(2, 3);
        x.fall(1, 9);
        x.minutes(1);
        due.is("14: one OUT isn't", x.on(2), 0);
        due.is("14: its CELL", x.of(1, 4), 2);
        due.is("14: on(31)", x.on(31), Due.BEYOND);
        due.is("14: on(-1)", x.on(-1), Due.BEYOND);
    }

    private static void ahead(Due due) {
        RollTown x = with(4);
        x.go(0);
        for (int i = 0; i < CELLS.length; i++) {
            due.is("15: ahead(" + (i + 1) + ", 4)", x.ahead(i + 1, 4), CELLS[i]);
        }
        due.is("15: ahead(0, 0)", x.ahead(0, 0), 1);
        due.is("15: ahead(8, 0)", x.ahead(8, 0), 1);
        due.is("15: ahead(9, 0)", x.ahead(9, 0), 0);
        due.is("15: ahead(8, 2)", x.ahead(8, 2), 0);
        due.is("15: ahead(200, 2)", x.ahead(200, 2), 1);
        x.put(1, 12);
        due.is("15: ahead(4, 3)", x.ahead(4, 3), 0);
        due.is("15: ahead(5, 3)", x.ahead(5, 3), 2);
        due.is("15: ahead(200, 2) is in vain now", x.ahead(200, 2), 0);
        x.ground(4, 3);
        x.put(2, 3);
        x.fall(3, 9);
        x.go(2);
        due.is("15: ahead(1, 1)", x.ahead(1, 1), 4);
        x.put(3, 30);
        due.is("15: ahead(0, 2)", x.ahead(0, 2), 8);
        x.wheel(9);
        due.is("15: one UP isn't AT REST", x.ahead(0, 2), 0);
        due.is("15: ahead(3, 7)", x.ahead(3, 7), 30);
        due.is("15: nothing has changed", x.count(0), 0);
        due.is("15: nor moved", x.of(0, 4), 0);
        due.is("15: ahead(3, 8)", x.ahead(3, 8), Due.BEYOND);
        due.is("15: ahead(3, -1)", x.ahead(3, -1), Due.BEYOND);
        due.is("15: ahead(3, least)", x.ahead(3, Integer.MIN_VALUE), Due.BEYOND);
        due.is("15: ahead(3, most)", x.ahead(3, Integer.MAX_VALUE), Due.BEYOND);
        due.is("15: ahead(201, 0)", x.ahead(201, 0), Due.BEYOND);
        due.is("15: ahead(-1, 0)", x.ahead(-1, 0), Due.BEYOND);
    }

    private static void meet(Due due) {
        RollTown x = with(2);
        due.is("16: nobody", x.meet(), Due.NONE);
        x.put(1, 12);
        x.go(0);
        due.is("16: in the fifth", x.meet(), 5);
        x.minutes(4);
        due.is("16: in the first", x.meet(), 1);
        x.minutes(1);
        due.is("16: no more", x.meet(), Due.NONE);
        due.is("16: minute", x.count(0), 5);
        for (int i = 0; i < 81; i++) {
            x.minutes(120);
        }
        x.minutes(74);
        x.put(0, 11);
        x.go(0);
        due.is("16: minute", x.count(0), 9799);
        due.is("16: in MINUTE 9799", x.meet(), 1);
        x.minutes(1);
        due.is("16: in MINUTE 9800", x.meet(), Due.STATE);
    }
}
