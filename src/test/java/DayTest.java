/** Promises 25 to 27: when to let go what. */
public final class DayTest {
    public static void main(String[] args) {
        Due due = new Due("Day");
        waitAlone(due);
        waitForAGate(due);
        waitForOthers(due);
        waitWrong(due);
        behind(due);
        behindNever(due);
        behindWrong(due);
        come(due);
        late(due);
        due.end();
    }

    private static RollTown with(int things) {
        RollTown x = new RollTown();
        for (int i = 0; i < things; i++) {
            x.thing(0, 10);
        }
        return x;
    }

    private static void waitAlone(Due due) {
        RollTown x = with(2);
        String before = Due.view(x);
        due.is("25: nobody is in the way", x.wait(0), 0);
        due.same("25: what it leaves", Due.view(x), before);
        x.put(1, 5);
        due.is("25: one lies in the way for ever", x.wait(0), Due.NONE);
        x.put(1, 4);
        due.is("25: one past which it goes", x.wait(0), 0);
    }

    private static void waitForAGate(Due due) {
        RollTown x = with(2);
        x.ground(3, 4);
        x.put(1, 2);
        due.is("25: till the gate is open", x.wait(0), 14);
        x.minutes(10);
        due.is("25: from now on", x.wait(0), 4);
        x.gate(0, 9);
        x.gate(1, 8);
        due.is("25: a gate that is always shut", x.wait(0), Due.NONE);
        x.gate(0, 0);
        x.gate(1, 59);
        x.gate(0, 11);
        x.gate(1, 9);
        due.is("25: one minute of the hour, this one's next is 70", x.wait(0), 59);
        x.gate(0, 12);
        x.gate(1, 10);
        due.is("25: open in 11 alone", x.wait(0), 0);
    }

    private static void waitForOthers(Due due) {
        RollTown x = with(3);
        x.go(0);
        due.is("25: a minute behind the first", x.wait(1), 1);
        x.put(0, 0);
        x.put(1, 5);
        x.put(2, 6);
        x.go(0);
        due.is("25: those who meet while it waits don't count", x.wait(2), 3);
        due.is("25: nothing has met", x.count(2), 0);
    }

    private static void waitWrong(Due due) {
        RollTown x = with(2);
        x.go(0);
        due.is("25: one ROLLING", x.wait(0), Due.STATE);
        x.put(0, 30);
        due.is("25: one on THE FOOT", x.wait(0), Due.STATE);
        x.wheel(9);
        due.is("25: one UP", x.wait(0), Due.STATE);
        x.fall(0, 9);
        x.ground(1, 3);
        x.go(1);
        x.minutes(1);
        due.is("25: one OUT", x.wait(1), Due.STATE);
        due.is("25: wait(2)", x.wait(2), Due.BEYOND);
        due.is("25: wait(-1)", x.wait(-1), Due.BEYOND);
        due.is("25: status(4)", x.status(4), 4);
    }

    private static void behind(Due due) {
        RollTown x = with(4);
        String before = Due.view(x);
        due.is("26: like ones", x.behind(0, 1), 1);
        due.same("26: what it leaves", Due.view(x), before);
        x.change(1, 0, 1);
        due.is("26: a CHEESE gets at a THING on 26", x.behind(0, 1), 2);
        due.is("26: the other way round", x.behind(1, 0), 1);
        x.put(2, 5);
        x.put(3, 1);
        x.go(3);
        due.is("26: nobody else is there", x.behind(0, 1), 2);
        due.is("26: nobody else, the other way round", x.behind(1, 0), 1);
        x.put(2, 0);
        x.put(0, 5);
        due.is("26: nor the first of all", x.behind(2, 1), 2);
        x.put(2, 2);
        x.put(0, 2);
        due.is("26: from another CELL than 0", x.behind(0, 2), 1);
        x.ground(3, 4);
        x.put(0, 0);
        x.put(1, 0);
        due.is("26: the first would stop at the gate", x.behind(0, 1), Due.NONE);
        x.minutes(15);
        due.is("26: both through the gate", x.behind(0, 1), 2);
        x.gate(0, 17);
        x.gate(1, 40);
        due.is("26: the other one when it is open again", x.behind(0, 1), 25);
        x.gate(1, 14);
        due.is("26: as late as can be", x.behind(0, 1), 59);
        x.gate(1, 15);
        due.is("26: too late", x.behind(0, 1), Due.NONE);
    }

    private static void behindNever(Due due) {
        RollTown x = with(2);
        x.fall(0, 0);
        due.is("26: they don't come to THE FOOT", x.behind(0, 1), Due.NONE);
        x.fall(0, 2);
        x.put(0, 5);
        x.put(1, 5);
        due.is("26: from 5", x.behind(0, 1), 1);
        x.ground(13, 3);
        x.change(1, 2, 9);
        due.is("26: the other one is OUT", x.behind(0, 1), Due.NONE);
        due.is("26: the first one is OUT", x.behind(1, 0), Due.NONE);
        x.ground(13, 0);
        x.change(1, 2, 4);
        x.fall(5, 1);
        x.change(0, 0, 2);
        x.change(0, 3, 3);
        due.is("26: the first one stays with the other one", x.behind(0, 1), Due.NONE);
    }

    private static void behindWrong(Due due) {
        RollTown x = with(3);
        due.is("26: one and the same", x.behind(1, 1), Due.BEYOND);
        x.put(1, 1);
        due.is("26: not on one CELL", x.behind(0, 1), Due.STATE);
        x.put(0, 30);
        x.put(1, 30);
        due.is("26: on THE FOOT", x.behind(0, 1), Due.STATE);
        due.is("26: one and the same on THE FOOT", x.behind(0, 0), Due.BEYOND);
        x.put(0, 0);
        x.put(1, 0);
        x.go(0);
        due.is("26: the first is ROLLING", x.behind(0, 1), Due.STATE);
        due.is("26: the other is ROLLING", x.behind(1, 0), Due.STATE);
        due.is("26: one and the same ROLLING", x.behind(0, 0), Due.BEYOND);
        due.is("26: behind(3, 0)", x.behind(3, 0), Due.BEYOND);
        due.is("26: behind(0, 3)", x.behind(0, 3), Due.BEYOND);
        due.is("26: behind(-1, -1)", x.behind(-1, -1), Due.BEYOND);
        due.is("26: status(0)", x.status(0), 6);
        due.is("26: status(4)", x.status(4), 4);
    }

    private static void come(Due due) {
        RollTown x = with(4);
        due.is("27: all come", x.come(), 4);
        x.change(0, 0, 6);
        due.is("27: a BOX does not", x.come(), 3);
        x.put(1, 1);
        due.is("27: one on 1 does not count", x.come(), 2);
        x.go(2);
        due.is("27: nor one ROLLING", x.come(), 1);
        x.ground(13, 3);
        due.is("27: nor one that would be OUT", x.come(), 0);
        due.is("27: nobody", new RollTown().come(), 0);
    }

    private static void late(Due due) {
        RollTown x = with(2);
        for (int i = 0; i < 81; i++) {
            x.minutes(120);
        }
        x.minutes(20);
        due.is("25: in MINUTE 9740", x.wait(0), 0);
        due.is("26: in MINUTE 9740", x.behind(0, 1), 1);
        x.minutes(1);
        due.is("25: in MINUTE 9741", x.wait(0), Due.STATE);
        due.is("25: BEYOND first", x.wait(2), Due.BEYOND);
        due.is("26: in MINUTE 9741", x.behind(0, 1), Due.STATE);
        due.is("26: BEYOND first", x.behind(0, 2), Due.BEYOND);
        due.is("26: BEYOND first, of one and the same", x.behind(1, 1), Due.BEYOND);
        x.minutes(58);
        due.is("27: in MINUTE 9799", x.come(), 2);
        due.is("35: in MINUTE 9799", x.odds(0, 1), 0);
        x.minutes(1);
        due.is("27: in MINUTE 9800", x.come(), Due.STATE);
        due.is("35: in MINUTE 9800", x.odds(0, 1), Due.STATE);
        due.is("35: BEYOND first", x.odds(0, 0), Due.BEYOND);
    }
}
