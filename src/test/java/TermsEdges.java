/** Point 1 of the Terms: the lane, things, kinds. */
final class TermsEdges {
    private TermsEdges() {
    }

    static void all(Edges e) {
        cells(e);
        falls(e);
        grounds(e);
        shutFromFirstToLast(e);
        shutIsOfAnHour(e);
        shutRoundOverNaught(e);
        shutAtFirst(e);
        minuteAtFirst(e);
        minuteAtMost(e);
        things(e);
        weights(e);
        weightAtFirst(e);
        rolls(e);
        leans(e);
        cellOfAThing(e);
        speeds(e);
        states(e);
        kinds(e);
        gainOfAThing(e);
        gainOfACheese(e);
        gainOfARock(e);
        gainOfABox(e);
        dragOfAThing(e);
        dragOfADrum(e);
        dragOfABale(e);
        dragOfARing(e);
        topOfAThing(e);
        topOfACheese(e);
        topOfADrum(e);
        topOfARock(e);
        othersAsTheKindAbove(e);
    }

    private static void cells(Edges e) {
        e.says(0, "CELLS 0 (the top) to 30 (THE FOOT),");
        e.town("thing(0, 10)");
        e.tells("on(0)", 1);
        e.due("put(0, 30)", 0);
        e.tells("on(30)", 1);
        e.tells("waits()", 2);
        e.beyond("on(-1)", "on(31)", "put(0, 31)");
    }

    private static void falls(Edges e) {
        e.says(0, "each with a FALL (-9 to 9; 2 at first)");
        for (int c = 0; c < 31; c++) {
            e.due("fall(" + c + ", -9)", 2);
            e.due("fall(" + c + ", 9)", -9);
        }
        e.beyond("fall(0, -10)", "fall(0, 10)", "fall(30, -10)", "fall(30, 10)");
    }

    private static void grounds(Edges e) {
        e.says(0, "and GROUND: 0 STONE (at first), 1 SAND, 2 STRAW, 3 BEND, 4 GATE.");
        e.town("thing(0, 10)");
        int[] drags = {2, 12, 30, 4, 2};
        for (int c = 0; c < 31; c++) {
            e.due("ground(" + c + ", " + c % 5 + ")", 0);
            e.tells("told(0, 1, " + c + ")", drags[c % 5]);
        }
        e.beyond("ground(0, -1)", "ground(0, 5)");
    }

    private static void shutIs(Edges e, String gates, int... pairs) {
        e.town(gates);
        for (int i = 0; i < pairs.length; i += 2) {
            e.tells("shut(" + pairs[i] + ")", pairs[i + 1]);
        }
    }

    private static void shutFromFirstToLast(Edges e) {
        e.says(0, "SHUT (a GATE is): from FIRST to LAST, both too");
        shutIs(e, "gate(0, 20); gate(1, 22)", 19, 0, 20, 1, 21, 1, 22, 1, 23, 0);
        shutIs(e, "gate(0, 20); gate(1, 20)", 19, 0, 20, 1, 21, 0);
        shutIs(e, "gate(0, 0); gate(1, 59)", 0, 1, 30, 1, 59, 1, 60, 1);
    }

    private static void shutIsOfAnHour(Edges e) {
        e.says(0, "(MINUTES of an hour, 0 to 59;");
        shutIs(e, "gate(0, 59); gate(1, 59)", 58, 0, 59, 1, 60, 0, 119, 1, 120, 0, 9959, 1, 9960, 0);
        shutIs(e, "gate(0, 0); gate(1, 0)", 0, 1, 1, 0, 59, 0, 60, 1, 61, 0, 9960, 1);
        e.beyond("gate(0, -1)", "gate(0, 60)", "gate(1, -1)", "gate(1, 60)");
    }

    private static void shutRoundOverNaught(Edges e) {
        e.says(0, "round over 0 if FIRST is above LAST;");
        shutIs(e, "gate(0, 59); gate(1, 0)", 58, 0, 59, 1, 60, 1, 61, 0, 0, 1, 1, 0);
        shutIs(e, "gate(0, 31); gate(1, 30)", 30, 1, 31, 1, 0, 1, 59, 1);
        shutIs(e, "gate(0, 32); gate(1, 30)", 30, 1, 31, 0, 32, 1, 91, 0);
    }

    private static void shutAtFirst(Edges e) {
        e.says(0, "0 and 14 at first).");
        shutIs(e, "", 0, 1, 14, 1, 15, 0, 59, 0);
        e.due("gate(0, 0)", 0);
        e.due("gate(1, 14)", 14);
    }

    private static void minuteAtFirst(Edges e) {
        e.says(0, "MINUTE is 0 at first");
        e.tells("count(0)", 0);
    }

    private static void minuteAtMost(Edges e) {
        e.says(0, "(9999 at most).");
        e.minute(9998);
        e.due("minutes(1)", 0);
        e.tells("count(0)", 9999);
        e.state("minutes(1)");
    }

    private static void things(Edges e) {
        e.says(0, "THINGS 0, 1, .. (at most 10),");
        for (int i = 0; i < 10; i++) {
            e.due("thing(0, 10)", i);
        }
        e.full("thing(0, 10)");
    }

    private static void weights(Edges e) {
        e.says(0, "each with WEIGHT (1 to 99;");
        e.due("thing(0, 1)", 0);
        e.due("thing(0, 99)", 1);
        e.beyond("thing(0, 0)", "thing(0, 100)", "change(0, 1, 0)", "change(0, 1, 100)");
    }

    private static void weightAtFirst(Edges e) {
        e.says(0, "10 at first),");
        e.reads("thing;cheese;drum;rock;bale;ring;box", 7);
        for (int i = 0; i < 7; i++) {
            e.tells("of(" + i + ", 1)", 10);
        }
    }

    private static void rolls(Edges e) {
        e.says(0, "ROLLS (1 to 9; 4 at first),");
        e.town("thing(6, 10)");
        e.due("change(0, 2, 1)", 4);
        e.due("change(0, 2, 9)", 1);
        e.beyond("change(0, 2, 0)", "change(0, 2, 10)");
    }

    private static void leans(Edges e) {
        e.says(0, "LEAN (0 to 9; 0 at first),");
        e.town("thing(2, 10)");
        e.due("change(0, 3, 9)", 0);
        e.due("change(0, 3, 0)", 9);
        e.beyond("change(0, 3, -1)", "change(0, 3, 10)");
    }

    private static void cellOfAThing(Edges e) {
        e.says(0, "a CELL,");
        e.town("thing(0, 10)");
        e.tells("of(0, 4)", 0);
        e.play("put(0, 30)");
        e.tells("of(0, 4)", 30);
    }

    private static void speeds(Edges e) {
        e.says(0, "SPEED (0 to 99),");
        e.town("thing(0, 10); change(0, 2, 9); fall(0, 9); fall(8, 9); fall(17, -9)");
        e.tells("of(0, 5)", 0);
        e.play("go(0); minutes(1)");
        e.tells("of(0, 5)", 89);
        e.play("minutes(1)");
        e.tells("of(0, 5)", 99);
        e.tells("of(0, 4)", 17);
        e.play("minutes(1)");
        e.tells("of(0, 5)", 16);
        e.tells("of(0, 4)", 18);
        e.play("fall(18, -9); minutes(1)");
        e.tells("of(0, 5)", 0);
    }

    private static void states(Edges e) {
        e.says(0, "and a state: 0 AT REST (at first, on CELL 0), 1 ROLLING, 2 OUT (left the lane at a BEND), 3 UP (brought up by the wheel);");
        e.town("thing(0, 10); ground(1, 3); fall(0, 9)");
        e.tells("of(0, 6)", 0);
        e.tells("of(0, 4)", 0);
        e.play("go(0)");
        e.tells("of(0, 6)", 1);
        e.play("minutes(1)");
        e.tells("of(0, 6)", 2);
        e.play("put(0, 30); wheel(2)");
        e.tells("of(0, 6)", 3);
    }

    private static void kinds(Edges e) {
        e.says(0, "of KINDS: 0 THING; 1 CHEESE, 2 DRUM, 6 BOX under THING; 3 ROCK under CHEESE; 4 BALE under DRUM; 5 RING under CHEESE.");
        int[][] over = {{0}, {0, 1}, {0, 2}, {0, 1, 3}, {0, 2, 4}, {0, 1, 5}, {0, 6}};
        for (int kind = 0; kind < 7; kind++) {
            e.town("thing(" + kind + ", 10); hold(0, 0)");
            int next = 0;
            for (int asked = 0; asked < 7; asked++) {
                if (next < over[kind].length && over[kind][next] == asked) {
                    e.tells("as(0, " + asked + ")", 0);
                    next++;
                } else {
                    e.kind("as(0, " + asked + ")");
                }
            }
        }
        e.beyond("as(0, 7)", "as(0, -1)", "thing(7, 10)");
    }

    /** Asks for GAIN by FALLS 9, 1, 0, -1, -9 of a THING of number 0. */
    private static void gains(Edges e, String thing, int... want) {
        int[] falls = {9, 1, 0, -1, -9};
        e.town(thing);
        for (int i = 0; i < want.length; i++) {
            e.play("fall(" + i + ", " + falls[i] + ")");
            e.tells("told(0, 0, " + i + ")", want[i]);
        }
    }

    private static void gainOfAThing(Edges e) {
        e.says(0, "GAIN of a THING from a CELL (by its FALL): THING: FALL times ROLLS.");
        gains(e, "thing(0, 99)", 36, 4, 0, -4, -36);
        gains(e, "thing(0, 99); change(0, 2, 1)", 9, 1, 0, -1, -9);
        gains(e, "thing(0, 99); change(0, 2, 9); change(0, 3, 9)", 81, 9, 0, -9, -81);
    }

    private static void gainOfACheese(Edges e) {
        e.says(0, "CHEESE: as a THING, and 2.");
        gains(e, "thing(1, 99)", 38, 6, 2, -2, -34);
    }

    private static void gainOfARock(Edges e) {
        e.says(0, "ROCK: as a CHEESE, and a tenth of WEIGHT (cut).");
        gains(e, "thing(3, 9)", 38, 6, 2, -2, -34);
        gains(e, "thing(3, 10)", 39, 7, 3, -1, -33);
        gains(e, "thing(3, 99)", 47, 15, 11, 7, -25);
    }

    private static void gainOfABox(Edges e) {
        e.says(0, "BOX: as a THING, but 0 if that is above 0.");
        gains(e, "thing(6, 99)", 0, 0, 0, -4, -36);
    }

    /** Asks for DRAG on STONE, SAND, STRAW, BEND, GATE of a THING of number 0. */
    private static void drags(Edges e, String thing, int... want) {
        e.town(thing);
        for (int i = 0; i < want.length; i++) {
            e.play("ground(" + i + ", " + i + ")");
            e.tells("told(0, 1, " + i + ")", want[i]);
        }
    }

    private static void dragOfAThing(Edges e) {
        e.says(0, "DRAG (by GROUND): THING: STONE 2, SAND 12, STRAW 30, BEND 4, GATE 2.");
        drags(e, "thing(0, 99)", 2, 12, 30, 4, 2);
        drags(e, "thing(0, 1); change(0, 3, 9); change(0, 2, 9)", 2, 12, 30, 4, 2);
    }

    private static void dragOfADrum(Edges e) {
        e.says(0, "DRUM: as a THING, and LEAN.");
        drags(e, "thing(2, 10)", 2, 12, 30, 4, 2);
        drags(e, "thing(2, 10); change(0, 3, 9)", 11, 21, 39, 13, 11);
    }

    private static void dragOfABale(Edges e) {
        e.says(0, "BALE: as a DRUM, but on STRAW 10 less.");
        drags(e, "thing(4, 10)", 2, 12, 20, 4, 2);
        drags(e, "thing(4, 10); change(0, 3, 9)", 11, 21, 29, 13, 11);
    }

    private static void dragOfARing(Edges e) {
        e.says(0, "RING: half of what a CHEESE has (cut).");
        drags(e, "thing(5, 10)", 1, 6, 15, 2, 1);
        drags(e, "thing(5, 10); change(0, 3, 9)", 1, 6, 15, 2, 1);
    }

    private static void tops(Edges e, int kind, int upright, int leaning) {
        e.town("thing(" + kind + ", 99)");
        e.tells("of(0, 8)", upright);
        e.play("change(0, 3, 9)");
        e.tells("of(0, 8)", leaning);
    }

    /** SPEED 40 is TOP and stays on the lane; with 41 it is OUT. */
    private static void topOfAThing(Edges e) {
        e.says(0, "TOP (the SPEED above which it leaves the lane at a BEND): THING: 40.");
        tops(e, 0, 40, 40);
        e.town("thing(0, 10); fall(0, 8); ground(1, 3); go(0)");
        e.due("minutes(1)", 0);
        e.tells("of(0, 5)", 40);
        e.town("thing(0, 10); fall(0, 5); change(0, 2, 7); ground(0, 3); ground(1, 3); go(0)");
        e.due("minutes(1)", 1);
        e.tells("of(0, 5)", 41);
    }

    private static void topOfACheese(Edges e) {
        e.says(0, "CHEESE: as a THING, less 10.");
        tops(e, 1, 30, 30);
        e.town("thing(1, 10); fall(0, 5); ground(1, 3); go(0)");
        e.due("minutes(1)", 0);
        e.tells("of(0, 5)", 30);
        e.town("thing(1, 10); fall(0, 7); change(0, 2, 3); ground(1, 3); go(0)");
        e.due("minutes(1)", 1);
        e.tells("of(0, 5)", 31);
    }

    private static void topOfADrum(Edges e) {
        e.says(0, "DRUM: as a THING, less 3 times LEAN.");
        tops(e, 2, 40, 13);
        e.town("thing(2, 10); change(0, 3, 9); fall(0, 7); change(0, 2, 2); ground(1, 3); go(0)");
        e.due("minutes(1)", 0);
        e.tells("of(0, 5)", 13);
        e.town("thing(2, 10); change(0, 3, 9); fall(0, 5); change(0, 2, 3); ground(1, 3); go(0)");
        e.due("minutes(1)", 1);
        e.tells("of(0, 5)", 14);
    }

    private static void topOfARock(Edges e) {
        e.says(0, "ROCK: as a CHEESE, and 25.");
        tops(e, 3, 55, 55);
        e.town("thing(3, 9); fall(0, 9); change(0, 2, 5); ground(1, 3); go(0)");
        e.due("minutes(1)", 0);
        e.tells("of(0, 5)", 55);
        e.town("thing(3, 19); fall(0, 9); change(0, 2, 5); ground(1, 3); go(0)");
        e.due("minutes(1)", 1);
        e.tells("of(0, 5)", 56);
    }

    private static void othersAsTheKindAbove(Edges e) {
        e.says(0, "(Others as the KIND above.)");
        gains(e, "thing(2, 99); change(0, 3, 9)", 36, 4, 0, -4, -36);
        gains(e, "thing(4, 99); change(0, 3, 9)", 36, 4, 0, -4, -36);
        gains(e, "thing(5, 99)", 38, 6, 2, -2, -34);
        drags(e, "thing(1, 99); change(0, 3, 9)", 2, 12, 30, 4, 2);
        drags(e, "thing(3, 99); change(0, 3, 9)", 2, 12, 30, 4, 2);
        drags(e, "thing(6, 99); change(0, 3, 9)", 2, 12, 30, 4, 2);
        tops(e, 4, 40, 13);
        tops(e, 5, 30, 30);
        tops(e, 6, 40, 40);
    }
}
