/** Point 2 of the Terms: a MINUTE, to let go, a roll alone, the wheel, draws. */
final class RollingEdges {
    private RollingEdges() {
    }

    static void all(Edges e) {
        onlyThoseRolling(e);
        speedByGainAndDrag(e);
        speedHasBounds(e);
        asManyCellsAsSpeedByTen(e);
        aGateThatIsShut(e);
        theFoot(e);
        aBend(e);
        speedNaughtIsRest(e);
        onOneCell(e);
        notOnTopNorFoot(e);
        oneHasBeenRolling(e);
        thoseWhoMeet(e);
        damageAtFirst(e);
        minuteIsOneMore(e);
        toLetGo(e);
        aRollAlone(e);
        aRollHasAnEnd(e);
        noOtherOneThere(e);
        minutesAsTheyCome(e);
        theWheelBringsUp(e);
        theWheelTakes(e);
        theWheelsMinutes(e);
        waitsOfAnOrder(e);
        zIsTold(e);
        zBecomes(e);
        zGives(e);
    }

    private static void at(Edges e, int thing, int cell, int speed, int state) {
        e.tells("of(" + thing + ", 4)", cell);
        e.tells("of(" + thing + ", 5)", speed);
        e.tells("of(" + thing + ", 6)", state);
    }

    private static void onlyThoseRolling(Edges e) {
        e.says(0, "A MINUTE: (a) by numbers each THING that is ROLLING:");
        e.town("thing(0, 10); thing(0, 10); thing(0, 10); thing(0, 10); put(2, 30); wheel(2)");
        e.play("put(1, 20); ground(6, 3); fall(5, 9); put(3, 5); go(3); minutes(1); put(0, 10); go(0); minutes(1)");
        at(e, 0, 11, 16, 1);
        at(e, 1, 20, 0, 0);
        at(e, 2, 30, 0, 3);
        at(e, 3, 6, 44, 2);
    }

    /** What lies on the CELLS that it passes, or comes to, doesn't count in this MINUTE. */
    private static void speedByGainAndDrag(Edges e) {
        e.says(0, "SPEED is more by GAIN and less by DRAG, of its CELL");
        e.town("thing(0, 10); fall(0, 5); fall(1, -9); ground(1, 2); fall(2, 0); ground(2, 1); go(0); minutes(1)");
        at(e, 0, 2, 28, 1);
        e.play("minutes(1)");
        at(e, 0, 3, 16, 1);
    }

    /** Both come together, then the bounds: 89 + 81 - 30 is 99. */
    private static void speedHasBounds(Edges e) {
        e.says(0, "(0 to 99);");
        e.town("thing(0, 10); change(0, 2, 9); fall(0, 9); fall(8, 9); ground(8, 2); go(0); minutes(2)");
        at(e, 0, 17, 99, 1);
        e.town("thing(0, 10); fall(0, -9); go(0); minutes(1)");
        at(e, 0, 0, 0, 0);
        e.town("thing(0, 10); fall(0, -2); go(0); minutes(1)");
        at(e, 0, 0, 0, 0);
    }

    private static void asManyCellsAsSpeedByTen(Edges e) {
        e.says(0, "it goes SPEED by 10 CELLS, one by one, as long as it is ROLLING:");
        e.town("thing(0, 10); change(0, 2, 1); fall(0, 1); go(0); minutes(1)");
        at(e, 0, 0, 9, 1);
        e.town("thing(0, 10); change(0, 2, 1); go(0); minutes(1)");
        at(e, 0, 1, 10, 1);
        e.town("thing(1, 10); change(0, 2, 1); fall(0, 9); go(0); minutes(1)");
        at(e, 0, 1, 19, 1);
        e.town("thing(1, 10); change(0, 2, 2); fall(0, 5); go(0); minutes(1)");
        at(e, 0, 2, 20, 1);
        e.town("thing(0, 10); change(0, 2, 9); fall(0, 9); fall(8, 9); go(0); minutes(2)");
        at(e, 0, 17, 99, 1);
    }

    private static void aGateThatIsShut(Edges e) {
        e.says(0, "if the next one is a GATE that is SHUT (by the rest of MINUTE by 60), SPEED is 0 and it goes no farther;");
        gateAhead(e, 14, 0, 0);
        gateAhead(e, 15, 1, 16);
        gateAhead(e, 59, 1, 16);
        gateAhead(e, 60, 0, 0);
        gateAhead(e, 74, 0, 0);
        gateAhead(e, 75, 1, 16);
        e.town("thing(0, 10); ground(3, 4); fall(0, 9); go(0); minutes(1)");
        at(e, 0, 2, 0, 0);
        e.town("thing(0, 10); put(0, 3); ground(3, 4); go(0); minutes(1)");
        at(e, 0, 4, 16, 1);
        e.town("thing(0, 10); put(0, 3); ground(3, 4); ground(4, 4); go(0); minutes(1)");
        at(e, 0, 3, 0, 0);
        e.town("thing(0, 10); put(0, 29); ground(30, 4); go(0); minutes(1)");
        at(e, 0, 29, 0, 0);
        e.town("thing(0, 10); ground(2, 4); go(0); minutes(1)");
        at(e, 0, 1, 16, 1);
    }

    private static void gateAhead(Edges e, int minute, int cell, int speed) {
        e.town("thing(0, 10); ground(1, 4)");
        e.minute(minute);
        e.play("go(0); minutes(1)");
        at(e, 0, cell, speed, cell == 0 ? 0 : 1);
    }

    private static void theFoot(Edges e) {
        e.says(0, "on THE FOOT SPEED is 0, and it is AT REST;");
        e.town("thing(0, 10); put(0, 29); go(0); minutes(1)");
        at(e, 0, 30, 0, 0);
        e.town("thing(0, 10); change(0, 2, 9); put(0, 29); fall(29, 9); ground(30, 3); go(0)");
        e.due("minutes(1)", 0);
        at(e, 0, 30, 0, 0);
        e.play("minutes(5)");
        at(e, 0, 30, 0, 0);
    }

    private static void aBend(Edges e) {
        e.says(0, "on a BEND (come to now) with SPEED above TOP it is OUT.");
        e.town("thing(0, 10); put(0, 5); fall(5, 8); ground(5, 3); fall(6, 9); ground(6, 3); go(0); minutes(1)");
        at(e, 0, 8, 38, 1);
        e.town("thing(0, 10); put(0, 5); fall(5, 9); ground(5, 3); go(0); minutes(1)");
        at(e, 0, 9, 42, 1);
        e.town("thing(0, 10); put(0, 5); fall(5, 9); ground(6, 3); go(0); minutes(1)");
        at(e, 0, 6, 44, 2);
        e.town("thing(0, 10); put(0, 5); fall(5, 9); ground(9, 3); go(0); minutes(1)");
        at(e, 0, 9, 44, 2);
        e.town("thing(0, 10); put(0, 5); fall(5, 9); ground(10, 3); go(0); minutes(1)");
        at(e, 0, 9, 44, 1);
        e.town("thing(0, 10); put(0, 5); fall(5, 9); ground(7, 3); ground(6, 4); go(0); minutes(1)");
        at(e, 0, 5, 0, 0);
        e.town("thing(0, 10); put(0, 5); fall(5, 9); ground(6, 3); ground(7, 4); go(0); minutes(1)");
        at(e, 0, 6, 44, 2);
    }

    private static void speedNaughtIsRest(Edges e) {
        e.says(0, "If SPEED is 0 (and it isn't OUT), it is AT REST.");
        e.town("thing(0, 10); put(0, 3); ground(3, 1); fall(3, 0); go(0); minutes(1)");
        at(e, 0, 3, 0, 0);
        e.town("thing(0, 10); put(0, 3); fall(3, -2); go(0); minutes(1)");
        at(e, 0, 3, 0, 0);
        e.town("thing(0, 10); put(0, 3); change(0, 2, 7); fall(3, -1); go(0); minutes(1)");
        at(e, 0, 3, 1, 1);
    }

    private static void onOneCell(Edges e) {
        e.says(0, "(b) THINGS that are AT REST or ROLLING on one CELL");
        e.town("thing(0, 10); thing(0, 10); thing(0, 10); put(1, 5); put(2, 6); go(0); minutes(2)");
        e.due("minutes(1)", 2);
        e.tells("on(5)", 3);
        e.town("thing(0, 10); thing(0, 10); go(0); go(1)");
        e.due("minutes(1)", 2);
        e.town("thing(0, 10); thing(0, 10); put(1, 4); go(0)");
        e.due("minutes(9)", 0);
        e.town("thing(0, 10); thing(0, 10); put(1, 5); fall(5, 9); ground(6, 3); go(1); minutes(1); put(0, 5)");
        e.play("fall(5, 2); go(0)");
        e.tells("of(1, 4)", 6);
        e.due("minutes(1)", 0);
        e.tells("on(6)", 1);
        e.town("thing(0, 10); thing(0, 10); put(1, 3); fall(3, 9); ground(4, 3); put(0, 4); go(1)");
        e.due("minutes(1)", 1);
        e.tells("count(2)", 0);
    }

    private static void notOnTopNorFoot(Edges e) {
        e.says(0, "but 0 and THE FOOT,");
        e.town("thing(0, 10); thing(0, 10); change(0, 2, 1); fall(0, 1); go(0)");
        e.due("minutes(1)", 0);
        at(e, 0, 0, 9, 1);
        e.town("thing(0, 10); thing(0, 10); put(0, 29); put(1, 30); go(0)");
        e.due("minutes(1)", 0);
        e.tells("on(30)", 3);
        e.town("thing(0, 10); thing(0, 10); put(0, 28); put(1, 29); go(0)");
        e.due("minutes(1)", 2);
        e.town("thing(0, 10); thing(0, 10); put(1, 1); go(0)");
        e.due("minutes(1)", 2);
    }

    private static void oneHasBeenRolling(Edges e) {
        e.says(0, "one at least of them having been ROLLING as this MINUTE began, MEET:");
        e.town("thing(0, 10); thing(0, 10); put(0, 7); put(1, 7)");
        e.due("minutes(5)", 0);
        e.play("fall(7, -9); go(0)");
        e.due("minutes(1)", 2);
        e.due("minutes(5)", 0);
        e.town("thing(0, 10); thing(0, 10); put(0, 6); put(1, 7); ground(8, 4); fall(6, 3); go(0)");
        e.due("minutes(1)", 2);
        at(e, 0, 7, 0, 0);
        e.town("thing(0, 10); thing(0, 10); thing(0, 10); put(0, 7); put(1, 7); put(2, 6); go(2)");
        e.due("minutes(1)", 3);
        e.town("thing(0, 10); thing(0, 10); put(0, 7); put(1, 7); go(1)");
        e.due("minutes(1)", 0);
        at(e, 1, 8, 16, 1);
    }

    private static void thoseWhoMeet(Edges e) {
        e.says(0, "SPEED of all of these is 0, they are AT REST, DAMAGE of each is one more");
        e.town("thing(0, 10); thing(0, 10); thing(0, 10); thing(0, 10); put(1, 1); put(3, 2); go(0); go(2)");
        e.due("minutes(1)", 3);
        for (int i = 0; i < 3; i++) {
            at(e, i, 1, 0, 0);
            e.tells("of(" + i + ", 7)", 1);
        }
        e.tells("of(3, 7)", 0);
        e.play("put(2, 0); go(2)");
        e.due("minutes(1)", 3);
        for (int i = 0; i < 3; i++) {
            e.tells("of(" + i + ", 7)", 2);
        }
        e.tells("count(2)", 6);
        e.town("thing(0, 10); thing(0, 10); thing(0, 10); thing(0, 10); put(0, 4); put(1, 5); put(2, 8); put(3, 9); go(0); go(2)");
        e.due("minutes(1)", 4);
        e.tells("on(5)", 3);
        e.tells("on(9)", 12);
    }

    private static void damageAtFirst(Edges e) {
        e.says(0, "(0 at first).");
        e.due("thing(0, 10)", 0);
        e.tells("of(0, 7)", 0);
        e.reads("box", 1);
        e.tells("of(1, 7)", 0);
    }

    private static void minuteIsOneMore(Edges e) {
        e.says(0, "Then MINUTE is one more.");
        e.town("thing(0, 10)");
        e.due("minutes(1)", 0);
        e.tells("count(0)", 1);
        e.play("go(0)");
        e.due("minutes(1)", 0);
        e.tells("count(0)", 2);
    }

    private static void toLetGo(Edges e) {
        e.says(0, "TO LET GO a THING AT REST on CELL c: it is ROLLING with SPEED 10.");
        e.town("thing(0, 10); put(0, 29)");
        e.due("go(0)", 29);
        at(e, 0, 29, 10, 1);
    }

    private static void aRollAlone(Edges e) {
        e.says(0, "A ROLL ALONE: one let go (or ROLLING) goes on till it isn't ROLLING,");
        e.town("thing(0, 10)");
        e.tells("takes(0)", 9);
        e.tells("ends(0)", 30);
        e.play("go(0); minutes(3)");
        e.tells("takes(0)", 6);
        e.tells("ends(0)", 30);
        e.play("ground(5, 2); fall(5, -9)");
        e.tells("takes(0)", 1);
        e.tells("ends(0)", 5);
    }

    private static void aRollHasAnEnd(Edges e) {
        e.says(0, "200 MINUTES at most,");
        e.town("thing(0, 10); put(0, 6); fall(6, 0); go(0); minutes(1); fall(6, 1); change(0, 2, 2)");
        at(e, 0, 6, 8, 1);
        e.none("takes(0)", "ends(0)");
        e.tells("ahead(200, 0)", 1);
        e.play("minutes(120); minutes(120)");
        at(e, 0, 6, 8, 1);
        e.none("takes(0)", "ends(0)");
    }

    private static void noOtherOneThere(Edges e) {
        e.says(0, "no other one being there");
        e.town("thing(0, 10); thing(0, 10); thing(0, 10); put(1, 5); go(2)");
        e.tells("ends(0)", 30);
        e.tells("takes(0)", 9);
        e.tells("ends(2)", 30);
        e.tells("come()", 1);
        e.tells("meet()", 3);
    }

    private static void minutesAsTheyCome(Edges e) {
        e.says(0, "(MINUTES as they come from now on).");
        e.town("thing(0, 10); ground(5, 4)");
        e.minute(12);
        e.tells("ends(0)", 4);
        e.play("minutes(1)");
        e.tells("ends(0)", 30);
        e.minute(57);
        e.tells("ends(0)", 30);
        e.play("minutes(1)");
        e.tells("ends(0)", 4);
    }

    private static void theWheelBringsUp(Edges e) {
        e.says(0, "THE WHEEL brings THINGS AT REST on THE FOOT up:");
        e.town("thing(0, 10); thing(0, 10); thing(0, 10); put(0, 30); put(1, 29); put(2, 29); go(2)");
        e.due("wheel(999)", 1);
        e.tells("are(3)", 1);
        e.play("minutes(1)");
        e.due("wheel(999)", 1);
        e.tells("are(3)", 5);
        e.due("wheel(999)", 0);
    }

    private static void theWheelTakes(Edges e) {
        e.says(0, "each takes WEIGHT by 10 and 1 MINUTES");
        int[][] weightsAndMinutes = {{1, 1}, {9, 1}, {10, 2}, {19, 2}, {20, 3}, {90, 10}, {99, 10}};
        for (int[] pair : weightsAndMinutes) {
            e.town("thing(0, " + pair[0] + "); put(0, 30)");
            e.tells("waits()", pair[1]);
            if (pair[1] > 1) {
                e.due("wheel(" + (pair[1] - 1) + ")", 0);
            }
            e.due("wheel(" + pair[1] + ")", 1);
        }
    }

    private static void theWheelsMinutes(Edges e) {
        e.says(0, "(not the lane's);");
        e.town("thing(0, 10); thing(0, 10); put(0, 30); put(1, 3); go(1)");
        e.due("wheel(999)", 1);
        e.tells("count(0)", 0);
        at(e, 1, 3, 10, 1);
    }

    private static void waitsOfAnOrder(Edges e) {
        e.says(0, "WAITS of an order: the sum over all of how long it takes till each is up.");
        e.town("thing(0, 30); thing(0, 5); thing(0, 10); put(0, 30); put(1, 30); put(2, 30)");
        e.tells("waits()", 4 + 5 + 7);
        e.tells("least()", 1 + 3 + 7);
    }

    private static void zIsTold(Edges e) {
        e.says(0, "DRAWS: z is told (1 at first);");
        e.tells("count(6)", 1);
        e.due("seed(-5)", 1);
        e.tells("count(6)", -5);
    }

    private static void zBecomes(Edges e) {
        e.says(0, "each makes it z * 1103515245 + 12345 (an int),");
        e.town("thing(0, 10)");
        e.due("odds(0, 1)", 0);
        e.tells("count(6)", 1103527590);
        e.due("odds(0, 1)", 0);
        e.tells("count(6)", (int) (1103527590L * 1103515245L + 12345L));
        e.play("seed(0)");
        e.due("odds(0, 1)", 0);
        e.tells("count(6)", 12345);
        e.play("seed(least)");
        e.due("odds(0, 1)", 0);
        e.tells("count(6)", (int) (Integer.MIN_VALUE * 1103515245L + 12345L));
    }

    /** With z below 0 the draw is still above 0, so that SPEED is 10 to 39. */
    private static void zGives(Edges e) {
        e.says(0, "and gives z >>> 8.");
        e.town("thing(0, 10); fall(0, 3); ground(1, 3)");
        for (int seed = -9; seed < 10; seed++) {
            long z = (seed * 1103515245L + 12345L) & 0xFFFFFFFFL;
            long speed = 10 + (z >> 8) % 30 + 12 - 2;
            e.play("seed(" + seed + ")");
            e.due("odds(0, 1)", speed > 40 ? 1 : 0);
        }
    }
}
