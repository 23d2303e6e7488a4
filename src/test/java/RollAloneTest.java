/** Promises 17 to 24: a roll alone. */
public final class RollAloneTest {
    public static void main(String[] args) {
        Due due = new Due("RollAlone");
        aFreeLane(due);
        aBend(due);
        oneRolling(due);
        oneThatRollsOnAndOn(due);
        sand(due);
        rollsFor(due);
        matters(due);
        kindFor(due);
        wrong(due);
        late(due);
        due.end();
    }

    private static RollTown with(int things) {
        RollTown x = new RollTown();
        for (int i = 0; i < things; i++) {
            x.thing(0, 10);
        }
        return x;
    }

    private static int set(int... cells) {
        int s = 0;
        for (int c : cells) {
            s |= 1 << c;
        }
        return s;
    }

    private static void aFreeLane(Due due) {
        RollTown x = with(2);
        x.put(1, 12);
        String before = Due.view(x);
        due.is("18: takes(0), asked first", x.takes(0), 9);
        due.is("17: ends(0), no other one being there", x.ends(0), 30);
        due.is("18: takes(0)", x.takes(0), 9);
        due.is("19: speed(0), less than in its last MINUTE", x.speed(0), 58);
        due.is("20: seen(0)", x.seen(0), set(0, 1, 3, 5, 8, 12, 16, 21, 26, 30));
        x.sand(0, 3);
        x.rollsFor(0);
        x.matters(0);
        x.kindFor(0);
        due.same("17 to 24: what they leave", Due.view(x), before);
        x.put(0, 29);
        due.is("19: as it is LET GO", x.speed(0), 10);
        x.ends(1);
        due.is("20: from 29", x.seen(0), set(29, 30));
        x.ends(1);
        due.is("18: from 29", x.takes(0), 1);
        due.is("17: from 29", x.ends(0), 30);
        x.ends(1);
        due.is("19: from 29", x.speed(0), 10);
        x.ground(3, 4);
        x.put(0, 0);
        due.is("17: a gate that is SHUT", x.ends(0), 2);
        due.is("18: till then", x.takes(0), 2);
        x.minutes(14);
        due.is("17: MINUTES as they come", x.ends(0), 30);
    }

    private static void aBend(Due due) {
        RollTown x = with(1);
        x.ground(13, 3);
        due.is("17: OUT", x.ends(0), -1);
        due.is("18: OUT", x.takes(0), 6);
        due.is("19: OUT", x.speed(0), 46);
        due.is("20: but that from which it is OUT", x.seen(0), set(0, 1, 3, 5, 8, 12));
    }

    private static void oneRolling(Due due) {
        RollTown x = with(1);
        x.go(0);
        x.minutes(2);
        due.is("17: one ROLLING", x.ends(0), 30);
        due.is("18: one ROLLING", x.takes(0), 7);
        due.is("20: one ROLLING", x.seen(0), set(3, 5, 8, 12, 16, 21, 26, 30));
        for (int c = 3; c < 31; c++) {
            x.fall(c, -1);
        }
        due.is("17: uphill", x.ends(0), 5);
        due.is("18: uphill", x.takes(0), 4);
        due.is("19: uphill", x.speed(0), 22);
        due.is("20: uphill", x.seen(0), set(3, 4, 5));
    }

    private static void oneThatRollsOnAndOn(Due due) {
        RollTown x = with(1);
        x.put(0, 6);
        x.fall(6, 0);
        x.go(0);
        x.minutes(1);
        x.fall(6, 1);
        x.change(0, 2, 2);
        due.is("17: ROLLING still", x.ends(0), Due.NONE);
        due.is("18: ROLLING still", x.takes(0), Due.NONE);
        due.is("19: ROLLING still", x.speed(0), 8);
        due.is("20: ROLLING still", x.seen(0), set(6));
        due.is("21: sand stops it where it is", x.sand(0, 6), 6);
        due.is("22: with more ROLLS it comes", x.rollsFor(0), 3);
        due.is("23: no ground matters", x.matters(0), 0);
        x.ground(6, 1);
        due.is("17: on sand", x.ends(0), 6);
        due.is("23: ROLLING still on its CELL is not elsewhere", x.matters(0), 0);
        x.ground(6, 0);
        x.ground(7, 3);
        due.is("24: ROLLING still counts as its CELL", x.kindFor(0), 1);
        x.fall(6, 0);
        x.change(0, 0, 1);
        due.is("17: a CHEESE goes on and on there", x.ends(0), Due.NONE);
        for (int c = 7; c < 31; c++) {
            x.fall(c, -9);
        }
        due.is("24: a ROCK gets to 7", x.kindFor(0), 3);
        due.is("status(3)", x.status(3), 3);
    }

    private static void sand(Due due) {
        RollTown x = with(1);
        due.is("21: on the first", x.sand(0, 0), 0);
        due.is("21: the least for THE FOOT", x.sand(0, 30), 1);
        due.is("21: none for 1", x.sand(0, 1), Due.NONE);
        for (int c = 5; c < 31; c++) {
            x.fall(c, 0);
        }
        due.is("17: it ends on 18", x.ends(0), 18);
        due.is("21: on 0 it would stop it, on 1 slow it", x.sand(0, 18), 2);
        due.is("21: slowed on 1", x.sand(0, 14), 1);
        due.is("21: none for 5", x.sand(0, 5), Due.NONE);
        x.ground(0, 1);
        due.is("21: where there is sand", x.sand(0, 0), 0);
        x.ground(0, 0);
        x.ground(2, 3);
        x.fall(0, 9);
        due.is("17: OUT at 2", x.ends(0), -1);
        for (int c = 24; c < 29; c++) {
            due.is("21: sand(0, " + c + ")", x.sand(0, c), sandByHand(x, c));
        }
        due.is("21: sand(0, 31)", x.sand(0, 31), Due.BEYOND);
        due.is("21: sand(0, -1)", x.sand(0, -1), Due.BEYOND);
    }

    private static int sandByHand(RollTown x, int cell) {
        for (int c = 0; c < 31; c++) {
            int was = x.ground(c, 1);
            int end = x.ends(0);
            x.ground(c, was);
            if (end == cell) {
                return c;
            }
        }
        return Due.NONE;
    }

    private static void rollsFor(Due due) {
        RollTown x = with(1);
        due.is("22: rollsFor(0)", x.rollsFor(0), 1);
        for (int c = 0; c < 31; c++) {
            x.fall(c, 1);
        }
        due.is("22: less steep", x.rollsFor(0), 2);
        x.ground(0, 1);
        x.fall(0, 2);
        due.is("22: out of sand", x.rollsFor(0), 6);
        x.fall(0, 1);
        due.is("22: never", x.rollsFor(0), Due.NONE);
        x.change(0, 0, 3);
        x.change(0, 1, 19);
        due.is("22: a ROCK with all ROLLS", x.rollsFor(0), 9);
        x.change(0, 0, 0);
        x.ground(0, 0);
        x.ground(29, 3);
        x.change(0, 2, 9);
        due.is("22: over a BEND", x.rollsFor(0), 3);
        due.is("22: ROLLS stay", x.of(0, 2), 9);
    }

    private static void matters(Due due) {
        RollTown x = with(1);
        due.is("23: none on stone", x.matters(0), 0);
        x.ground(13, 3);
        due.is("23: the BEND where it is OUT", x.matters(0), set(13));
        x.ground(5, 1);
        due.is("17: sand on 5 saves it", x.ends(0), 30);
        due.is("23: the sand", x.matters(0), set(5));
        x.ground(5, 0);
        x.ground(17, 3);
        due.is("23: OUT a bit farther is OUT", x.matters(0), 0);
        x.ground(13, 0);
        x.ground(17, 0);
        x.ground(0, 2);
        x.ground(9, 2);
        due.is("17: straw", x.ends(0), 0);
        due.is("23: straw at the top", x.matters(0), set(0));
        due.is("23: ground stays", x.ground(0, 2), 2);
    }

    private static void kindFor(Due due) {
        RollTown x = with(1);
        due.is("24: of several the least", x.kindFor(0), 0);
        x.ground(13, 3);
        due.is("24: a ROCK holds the BEND", x.kindFor(0), 3);
        x.change(0, 2, 9);
        x.fall(0, 9);
        x.ground(1, 3);
        due.is("24: a BOX stays, the others are OUT", x.kindFor(0), 6);
        due.is("24: KIND stays", x.of(0, 0), 0);
        x.change(0, 3, 9);
        x.fall(0, 0);
        x.ground(0, 2);
        due.is("24: none gets away", x.kindFor(0), 0);
    }

    private static void wrong(Due due) {
        RollTown x = with(3);
        x.put(0, 30);
        x.put(1, 30);
        x.change(0, 1, 9);
        x.wheel(1);
        x.fall(0, 9);
        x.ground(1, 3);
        x.go(2);
        x.minutes(1);
        due.is("one is UP", x.are(3), 1);
        due.is("one is OUT", x.are(2), 4);
        String before = Due.view(x);
        for (int thing = 0; thing < 3; thing++) {
            all(due, x, thing, Due.STATE);
        }
        for (int thing : new int[] {-1, 3, Integer.MAX_VALUE, Integer.MIN_VALUE}) {
            all(due, x, thing, Due.BEYOND);
        }
        due.is("21: BEYOND comes ahead of STATE", x.sand(0, 31), Due.BEYOND);
        due.is("status(4)", x.status(4), 24);
        due.is("status(0)", x.status(0), 33);
        due.same("17 to 24: what refused calls leave", Due.view(x), before);
    }

    private static void late(Due due) {
        RollTown x = with(1);
        for (int i = 0; i < 81; i++) {
            x.minutes(120);
        }
        x.minutes(79);
        due.is("17: in MINUTE 9799", x.ends(0), 30);
        x.minutes(1);
        all(due, x, 0, Due.STATE);
        all(due, x, 1, Due.BEYOND);
    }

    private static void all(Due due, RollTown x, int thing, int want) {
        due.is("17: ends(" + thing + ")", x.ends(thing), want);
        due.is("18: takes(" + thing + ")", x.takes(thing), want);
        due.is("19: speed(" + thing + ")", x.speed(thing), want);
        due.is("20: seen(" + thing + ")", x.seen(thing), want);
        due.is("21: sand(" + thing + ", 5)", x.sand(thing, 5), want);
        due.is("22: rollsFor(" + thing + ")", x.rollsFor(thing), want);
        due.is("23: matters(" + thing + ")", x.matters(thing), want);
        due.is("24: kindFor(" + thing + ")", x.kindFor(thing), want);
    }
}
