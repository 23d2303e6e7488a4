/** Promises 1 to 11: a new object, the lane, things. */
public final class LaneTest {
    private static final int[] WRONG = {Integer.MIN_VALUE, -1, Integer.MAX_VALUE};

    public static void main(String[] args) {
        Due due = new Due("Lane");
        aNewObject(due);
        fall(due);
        ground(due);
        gate(due);
        shut(due);
        thing(due);
        of(due);
        change(due);
        told(due);
        go(due);
        put(due);
        refusedCallsChangeNothing(due);
        due.end();
    }

    private static void aNewObject(Due due) {
        RollTown x = new RollTown();
        int[] counts = {0, 0, 0, 0, 31, 0, 1, 0};
        for (int what = 0; what < counts.length; what++) {
            due.is("1: count(" + what + ")", x.count(what), counts[what]);
        }
        due.is("1: status(-1)", x.status(-1), 0);
        for (int state = 0; state < 4; state++) {
            due.is("1: are(" + state + ")", x.are(state), 0);
        }
        for (int c = 0; c < 31; c++) {
            due.is("1: fall of " + c, x.fall(c, 2), 2);
            due.is("1: ground of " + c, x.ground(c, 0), 0);
        }
        due.is("1: first", x.gate(0, 0), 0);
        due.is("1: last", x.gate(1, 14), 14);
        for (int i = 0; i < 10; i++) {
            due.is("1: spot " + i, x.as(i, 0), Due.MISSING);
        }
        for (int s = 0; s < 4; s++) {
            due.is("1: sheet " + s, x.write(s, 0, 0), Due.MISSING);
        }
        due.is("1: undo", x.undo(), Due.NONE);
        due.is("1: tear", x.tear(), 0);
        due.is("1: wipe", x.wipe(), 0);
        due.is("1: seed", x.seed(7), 1);
        due.is("1: another object is of its own", new RollTown().seed(7), 1);
    }

    private static void fall(Due due) {
        RollTown x = new RollTown();
        due.is("2: fall(0, 9)", x.fall(0, 9), 2);
        due.is("2: fall(0, -9)", x.fall(0, -9), 9);
        due.is("2: fall(30, 1)", x.fall(30, 1), 2);
        due.is("2: fall(1, 2)", x.fall(1, 2), 2);
        due.is("2: fall(0, 10)", x.fall(0, 10), Due.BEYOND);
        due.is("2: fall(0, -10)", x.fall(0, -10), Due.BEYOND);
        due.is("2: fall(31, 1)", x.fall(31, 1), Due.BEYOND);
        for (int cell : WRONG) {
            due.is("2: fall(" + cell + ", 1)", x.fall(cell, 1), Due.BEYOND);
        }
        due.is("2: fall(0, 3)", x.fall(0, 3), -9);
    }

    private static void ground(Due due) {
        RollTown x = new RollTown();
        due.is("3: ground(0, 4)", x.ground(0, 4), 0);
        due.is("3: ground(0, 1)", x.ground(0, 1), 4);
        due.is("3: ground(30, 2)", x.ground(30, 2), 0);
        due.is("3: count(4)", x.count(4), 29);
        due.is("3: ground(0, 5)", x.ground(0, 5), Due.BEYOND);
        due.is("3: ground(0, -1)", x.ground(0, -1), Due.BEYOND);
        due.is("3: ground(31, 0)", x.ground(31, 0), Due.BEYOND);
        for (int cell : WRONG) {
            due.is("3: ground(" + cell + ", 1)", x.ground(cell, 1), Due.BEYOND);
        }
        due.is("3: ground(0, 0)", x.ground(0, 0), 1);
        due.is("3: ground(30, 0)", x.ground(30, 0), 2);
    }

    private static void gate(Due due) {
        RollTown x = new RollTown();
        due.is("4: gate(0, 59)", x.gate(0, 59), 0);
        due.is("4: gate(1, 3)", x.gate(1, 3), 14);
        due.is("4: gate(0, 60)", x.gate(0, 60), Due.BEYOND);
        due.is("4: gate(1, -1)", x.gate(1, -1), Due.BEYOND);
        due.is("4: gate(2, 0)", x.gate(2, 0), Due.BEYOND);
        due.is("4: gate(-1, 0)", x.gate(-1, 0), Due.BEYOND);
        due.is("4: gate(0, 0)", x.gate(0, 0), 59);
        due.is("4: gate(1, 0)", x.gate(1, 0), 3);
    }

    private static void shut(Due due) {
        RollTown x = new RollTown();
        shutIs(due, x, new int[] {0, 1, 14, 1, 15, 0, 59, 0, 60, 1, 74, 1, 75, 0, 9960, 1, 9999, 0});
        x.gate(0, 50);
        x.gate(1, 10);
        shutIs(due, x, new int[] {49, 0, 50, 1, 59, 1, 0, 1, 10, 1, 11, 0, 110, 1, 109, 0, 9999, 0});
        x.gate(0, 7);
        x.gate(1, 7);
        shutIs(due, x, new int[] {6, 0, 7, 1, 8, 0, 67, 1});
        due.is("5: shut(-1)", x.shut(-1), Due.BEYOND);
        due.is("5: shut(10000)", x.shut(10000), Due.BEYOND);
    }

    private static void shutIs(Due due, RollTown x, int[] pairs) {
        for (int i = 0; i < pairs.length; i += 2) {
            due.is("5: shut(" + pairs[i] + ")", x.shut(pairs[i]), pairs[i + 1]);
        }
    }

    private static void thing(Due due) {
        RollTown x = new RollTown();
        due.is("6: thing(7, 1)", x.thing(7, 1), Due.BEYOND);
        due.is("6: thing(-1, 1)", x.thing(-1, 1), Due.BEYOND);
        due.is("6: thing(0, 0)", x.thing(0, 0), Due.BEYOND);
        due.is("6: thing(0, 100)", x.thing(0, 100), Due.BEYOND);
        for (int i = 0; i < 10; i++) {
            due.is("6: thing " + i, x.thing(i % 7, 99 - i), i);
        }
        due.is("6: an eleventh", x.thing(0, 1), Due.FULL);
        due.is("6: an eleventh that is wrong", x.thing(0, 100), Due.BEYOND);
        due.is("6: count(1)", x.count(1), 10);
        int[] first = {2, 90, 4, 0, 0, 0, 0, 0, 40};
        for (int what = 0; what < 9; what++) {
            due.is("6: of(9, " + what + ")", x.of(9, what), first[what]);
        }
    }

    private static void of(Due due) {
        RollTown x = new RollTown();
        int[] tops = {40, 30, 28, 55, 28, 30, 40};
        for (int kind = 0; kind < 7; kind++) {
            x.thing(kind, 10 + kind);
            x.change(kind, 2, 9);
            x.change(kind, 3, 4);
            due.is("7: kind", x.of(kind, 0), kind);
            due.is("7: weight", x.of(kind, 1), 10 + kind);
            due.is("7: rolls", x.of(kind, 2), 9);
            due.is("7: lean", x.of(kind, 3), 4);
            due.is("7: top of kind " + kind, x.of(kind, 8), tops[kind]);
        }
        x.put(0, 5);
        x.put(1, 4);
        x.fall(4, 0);
        x.ground(4, 1);
        x.go(0);
        due.is("7: cell", x.of(0, 4), 5);
        due.is("7: speed", x.of(0, 5), 10);
        due.is("7: state", x.of(0, 6), 1);
        x.change(0, 2, 1);
        x.put(1, 6);
        x.minutes(1);
        due.is("7: cell, having met", x.of(0, 4), 6);
        due.is("7: damage", x.of(0, 7), 1);
        due.is("7: damage of the other", x.of(1, 7), 1);
        for (int wrong : new int[] {-1, 7, Integer.MAX_VALUE, Integer.MIN_VALUE}) {
            due.is("7: of(" + wrong + ", 0)", x.of(wrong, 0), Due.BEYOND);
        }
        due.is("7: of(0, 9)", x.of(0, 9), Due.BEYOND);
        due.is("7: of(0, -1)", x.of(0, -1), Due.BEYOND);
    }

    private static void change(Due due) {
        RollTown x = new RollTown();
        x.thing(3, 50);
        int[] was = {3, 50, 4, 0};
        int[] low = {0, 1, 1, 0};
        int[] high = {6, 99, 9, 9};
        for (int what = 0; what < 4; what++) {
            due.is("8: change(0, " + what + ", low)", x.change(0, what, low[what]), was[what]);
            due.is("8: change(0, " + what + ", high)", x.change(0, what, high[what]), low[what]);
            due.is("8: below low", x.change(0, what, low[what] - 1), Due.BEYOND);
            due.is("8: above high", x.change(0, what, high[what] + 1), Due.BEYOND);
            due.is("8: of(0, " + what + ")", x.of(0, what), high[what]);
        }
        due.is("8: change(0, 4, 1)", x.change(0, 4, 1), Due.BEYOND);
        due.is("8: change(0, -1, 1)", x.change(0, -1, 1), Due.BEYOND);
        due.is("8: change(1, 0, 1)", x.change(1, 0, 1), Due.BEYOND);
        due.is("8: change(-1, 0, 1)", x.change(-1, 0, 1), Due.BEYOND);
    }

    private static void told(Due due) {
        RollTown x = new RollTown();
        x.fall(1, 5);
        x.fall(2, -5);
        x.fall(3, 0);
        for (int g = 0; g < 5; g++) {
            x.ground(20 + g, g);
        }
        int[][] gains = {
            {15, -15, 0}, {17, -13, 2}, {15, -15, 0}, {22, -8, 7}, {15, -15, 0}, {17, -13, 2}, {0, -15, 0}};
        int[][] drags = {
            {2, 12, 30, 4, 2}, {2, 12, 30, 4, 2}, {6, 16, 34, 8, 6}, {2, 12, 30, 4, 2}, {6, 16, 24, 8, 6},
            {1, 6, 15, 2, 1}, {2, 12, 30, 4, 2}};
        for (int kind = 0; kind < 7; kind++) {
            x.thing(kind, 59);
            x.change(kind, 2, 3);
            x.change(kind, 3, 4);
            for (int i = 0; i < 3; i++) {
                due.is("9: gain of kind " + kind, x.told(kind, 0, 1 + i), gains[kind][i]);
            }
            for (int g = 0; g < 5; g++) {
                due.is("9: drag of kind " + kind + " on " + g, x.told(kind, 1, 20 + g), drags[kind][g]);
            }
        }
        due.is("9: told(7, 0, 0)", x.told(7, 0, 0), Due.BEYOND);
        due.is("9: told(0, 2, 0)", x.told(0, 2, 0), Due.BEYOND);
        due.is("9: told(0, -1, 0)", x.told(0, -1, 0), Due.BEYOND);
        due.is("9: told(0, 0, 31)", x.told(0, 0, 31), Due.BEYOND);
        due.is("9: told(0, 1, -1)", x.told(0, 1, -1), Due.BEYOND);
    }

    private static void go(Due due) {
        RollTown x = new RollTown();
        due.is("10: go(0)", x.go(0), Due.BEYOND);
        x.thing(0, 10);
        x.thing(0, 10);
        x.put(0, 29);
        due.is("10: go(0) on 29", x.go(0), 29);
        due.is("10: state", x.of(0, 6), 1);
        due.is("10: speed", x.of(0, 5), 10);
        due.is("10: go(0) of one ROLLING", x.go(0), Due.STATE);
        x.minutes(1);
        due.is("10: go(0) on THE FOOT", x.go(0), Due.STATE);
        x.wheel(999);
        due.is("10: go(0) of one UP", x.go(0), Due.STATE);
        x.ground(1, 3);
        x.change(1, 2, 9);
        x.fall(0, 9);
        x.go(1);
        x.minutes(1);
        due.is("10: go(1) of one OUT", x.go(1), Due.STATE);
        due.is("10: it is OUT", x.are(2), 2);
        due.is("10: go(-1)", x.go(-1), Due.BEYOND);
        due.is("10: go(2)", x.go(2), Due.BEYOND);
    }

    private static void put(Due due) {
        RollTown x = new RollTown();
        x.thing(0, 10);
        due.is("11: put(0, 30)", x.put(0, 30), 0);
        x.wheel(999);
        due.is("11: put(0, 4) of one UP", x.put(0, 4), 30);
        due.is("11: state", x.of(0, 6), 0);
        x.go(0);
        due.is("11: put(0, 0) of one ROLLING", x.put(0, 0), 4);
        due.is("11: speed", x.of(0, 5), 0);
        x.fall(0, 9);
        x.ground(2, 3);
        x.go(0);
        x.minutes(1);
        due.is("11: it is OUT", x.of(0, 6), 2);
        due.is("11: with SPEED", x.of(0, 5), 44);
        due.is("11: put(0, 7) of one OUT", x.put(0, 7), 2);
        due.is("11: state of one put back", x.of(0, 6), 0);
        due.is("11: speed of one put back", x.of(0, 5), 0);
        due.is("11: put(0, 31)", x.put(0, 31), Due.BEYOND);
        due.is("11: put(0, -1)", x.put(0, -1), Due.BEYOND);
        due.is("11: put(1, 0)", x.put(1, 0), Due.BEYOND);
        due.is("11: put(-1, 0)", x.put(-1, 0), Due.BEYOND);
        due.is("11: cell", x.of(0, 4), 7);
    }

    private static void refusedCallsChangeNothing(Due due) {
        RollTown x = new RollTown();
        x.thing(2, 30);
        x.thing(1, 20);
        x.go(1);
        x.minutes(2);
        String before = Due.view(x);
        x.fall(0, 10);
        x.fall(31, 5);
        x.ground(0, 5);
        x.ground(-1, 1);
        x.gate(2, 3);
        x.gate(1, 60);
        x.thing(7, 5);
        x.thing(0, 0);
        x.change(0, 1, 0);
        x.change(0, 4, 1);
        x.go(1);
        x.put(0, 31);
        due.same("2 to 11: what refused calls leave", Due.view(x), before);
        due.is("2 to 11: status(0)", x.status(0), 11);
        due.is("2 to 11: status(4)", x.status(4), 1);
    }
}
