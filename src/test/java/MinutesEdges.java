/** Promises 12 to 16, sentence by sentence. */
final class MinutesEdges {
    private MinutesEdges() {
    }

    static void all(Edges e) {
        minutesGo(e);
        minutesTell(e);
        minutesBeyond(e);
        minutesState(e);
        areTells(e);
        areBeyond(e);
        onTells(e);
        onBeyond(e);
        aheadByMinutes(e);
        aheadTellsSets(e);
        aheadTellsDamage(e);
        aheadTellsACell(e);
        aheadBeyond(e);
        aheadState(e);
        meetTells(e);
        meetState(e);
        meetNone(e);
    }

    private static void minutesGo(Edges e) {
        e.says(12, "n MINUTES go (1 to 120):");
        e.town("thing(0, 10); go(0)");
        e.due("minutes(1)", 0);
        e.tells("count(0)", 1);
        e.tells("of(0, 4)", 1);
        e.due("minutes(2)", 0);
        e.tells("of(0, 4)", 5);
        e.due("minutes(120)", 0);
        e.tells("count(0)", 123);
        e.tells("of(0, 4)", 30);
    }

    /** Things 0 and 1 MEET on 5; a MINUTE later thing 2 comes there, too: 2 and 3. */
    private static void minutesTell(Edges e) {
        e.says(12, "how many THINGS MEET, and come OUT, in them (each once for each time).");
        e.town("thing(0, 10); thing(0, 10); thing(0, 10); put(1, 5); go(0); minutes(1); go(2)");
        e.due("minutes(3)", 5);
        e.tells("count(2)", 5);
        e.due("minutes(120)", 0);
        e.town("thing(0, 10); thing(0, 10); ground(13, 3); go(0); minutes(1); go(1)");
        e.due("minutes(4)", 0);
        e.due("minutes(120)", 2);
        e.due("minutes(120)", 0);
        e.town("thing(0, 10); thing(0, 10); thing(0, 10); put(1, 5); put(2, 20); fall(20, 9); ground(21, 3); go(0); go(2)");
        e.due("minutes(3)", 3);
        e.tells("are(2)", 4);
        e.town("thing(0, 10); put(0, 29); go(0)");
        e.due("minutes(1)", 0);
    }

    private static void minutesBeyond(Edges e) {
        e.says(12, "BEYOND.");
        e.town("thing(0, 10); go(0)");
        e.beyond("minutes(0)", "minutes(121)", "minutes(-1)", "minutes(least)", "minutes(most)");
    }

    private static void minutesState(Edges e) {
        e.says(12, "STATE: MINUTE would be above 9999.");
        e.minute(9879);
        e.tells("ahead(120, 0)", 0);
        e.due("minutes(120)", 0);
        e.tells("count(0)", 9999);
        e.state("minutes(1)", "minutes(120)");
        e.town("thing(0, 10); go(0)");
        e.minute(9880);
        e.state("minutes(120)");
        e.due("minutes(119)", 0);
        e.beyond("minutes(121)");
    }

    private static void areTells(Edges e) {
        e.says(13, "THINGS in a state (0 to 3), as a set.");
        e.town("thing(0, 10);".repeat(10));
        e.tells("are(0)", 1023);
        e.tells("are(1)", 0);
        e.tells("are(2)", 0);
        e.tells("are(3)", 0);
        e.play("go(1); put(2, 30); put(9, 30); wheel(2); ground(6, 3); put(3, 5); fall(5, 9); go(3); minutes(1)");
        e.tells("are(0)", 1023 - 2 - 4 - 8);
        e.tells("are(1)", 2);
        e.tells("are(2)", 8);
        e.tells("are(3)", 4);
        e.play("wheel(2)");
        e.tells("are(3)", 516);
    }

    private static void areBeyond(Edges e) {
        e.says(13, "BEYOND.");
        e.beyond("are(-1)", "are(4)", "are(least)", "are(most)");
    }

    private static void onTells(Edges e) {
        e.says(14, "THINGS on a CELL (not OUT, nor UP), as a set.");
        e.town("thing(0, 10);".repeat(10));
        e.tells("on(0)", 1023);
        e.tells("on(1)", 0);
        e.play("go(0); put(1, 30); put(9, 30)");
        e.tells("on(0)", 1023 - 2 - 512);
        e.tells("on(30)", 514);
        e.play("wheel(2)");
        e.tells("on(30)", 512);
        e.tells("of(1, 4)", 30);
        e.play("put(3, 5); fall(5, 9); ground(6, 3); go(3); minutes(1)");
        e.tells("of(3, 4)", 6);
        e.tells("on(6)", 0);
        e.tells("on(1)", 1);
    }

    private static void onBeyond(Edges e) {
        e.says(14, "BEYOND.");
        e.town("thing(0, 10)");
        e.beyond("on(-1)", "on(31)", "on(least)", "on(most)");
    }

    private static void aheadByMinutes(Edges e) {
        e.says(15, "AHEAD n MINUTES (0 to 200):");
        e.town("thing(0, 10); go(0)");
        int[] cells = {0, 1, 3, 5, 8, 12, 16, 21, 26, 30, 30};
        for (int n = 0; n < cells.length; n++) {
            e.tells("ahead(" + n + ", 4)", cells[n]);
        }
        e.tells("ahead(200, 4)", 30);
        e.tells("count(0)", 0);
        e.tells("of(0, 4)", 0);
    }

    private static void aheadTellsSets(Edges e) {
        e.says(15, "what 0 those ROLLING, 1 OUT, 2 AT REST on THE FOOT, as sets,");
        e.town("thing(0, 10); thing(0, 10); thing(0, 10); thing(0, 10); put(3, 30); wheel(2); put(1, 5); fall(5, 9)");
        e.play("ground(6, 3); put(2, 30); put(0, 29); go(1); go(0)");
        e.tells("ahead(0, 0)", 3);
        e.tells("ahead(0, 1)", 0);
        e.tells("ahead(0, 2)", 4);
        e.tells("ahead(1, 0)", 0);
        e.tells("ahead(1, 1)", 2);
        e.tells("ahead(1, 2)", 5);
        e.tells("ahead(200, 1)", 2);
        e.tells("ahead(200, 2)", 5);
    }

    private static void aheadTellsDamage(Edges e) {
        e.says(15, "3 DAMAGE of all,");
        e.town("thing(0, 10); thing(0, 10); thing(0, 10); put(1, 5); go(0); minutes(1); go(2)");
        e.tells("ahead(1, 3)", 0);
        e.tells("ahead(2, 3)", 2);
        e.tells("ahead(3, 3)", 5);
        e.tells("ahead(200, 3)", 5);
        e.play("minutes(2)");
        e.tells("ahead(0, 3)", 2);
        e.tells("ahead(1, 3)", 5);
    }

    private static void aheadTellsACell(Edges e) {
        e.says(15, "4 + THING its CELL.");
        e.town("thing(0, 10);".repeat(10));
        e.play("put(9, 29); go(9); put(8, 5); fall(5, 9); ground(7, 3); go(8); put(1, 30); wheel(2)");
        e.tells("ahead(0, 13)", 29);
        e.tells("ahead(1, 13)", 30);
        e.tells("ahead(1, 12)", 7);
        e.tells("ahead(200, 12)", 7);
        e.tells("ahead(7, 5)", 30);
        e.tells("ahead(7, 4)", 0);
    }

    private static void aheadBeyond(Edges e) {
        e.says(15, "BEYOND: no such THING, too.");
        e.beyond("ahead(0, 4)");
        e.town("thing(0, 10)");
        e.beyond("ahead(-1, 0)", "ahead(201, 0)", "ahead(least, 0)", "ahead(most, 0)");
        e.beyond("ahead(0, -1)", "ahead(0, 5)", "ahead(0, 13)", "ahead(0, 14)", "ahead(0, least)", "ahead(0, most)");
        e.tells("ahead(0, 4)", 0);
    }

    private static void aheadState(Edges e) {
        e.says(15, "STATE: MINUTE would be above 9999.");
        e.town("thing(0, 10)");
        e.minute(9799);
        e.tells("ahead(200, 4)", 0);
        e.play("minutes(1)");
        e.state("ahead(200, 0)", "ahead(200, 4)");
        e.tells("ahead(199, 4)", 0);
        e.minute(9999);
        e.state("ahead(1, 3)");
        e.tells("ahead(0, 3)", 0);
    }

    private static void meetTells(Edges e) {
        e.says(16, "The first MINUTE of 1 to 200 AHEAD in which any MEET: how many on.");
        e.town("thing(0, 10); thing(0, 10); thing(0, 10); put(1, 12); go(0)");
        e.tells("meet()", 5);
        e.play("minutes(1); go(2)");
        e.tells("meet()", 4);
        e.play("minutes(3)");
        e.tells("meet()", 1);
        e.play("minutes(1)");
        e.tells("meet()", 1);
        e.tells("count(2)", 2);
    }

    private static void meetState(Edges e) {
        e.says(16, "STATE: MINUTE is above 9799.");
        e.town("thing(0, 10); thing(0, 10); put(1, 5); go(0)");
        e.minute(9799);
        e.play("put(0, 4); go(0)");
        e.tells("meet()", 1);
        e.town("thing(0, 10); thing(0, 10)");
        e.minute(9800);
        e.play("put(1, 5); put(0, 4); go(0)");
        e.state("meet()");
        e.minute(9999);
        e.state("meet()");
    }

    private static void meetNone(Edges e) {
        e.says(16, "NONE.");
        e.none("meet()");
        e.town("thing(0, 10); thing(0, 10); put(1, 4); go(0)");
        e.none("meet()");
        e.play("put(0, 4)");
        e.none("meet()");
        e.town("thing(0, 10); thing(0, 10); put(0, 6); fall(6, 0); go(0); minutes(1); fall(6, 1); change(0, 2, 2)");
        e.tells("ahead(200, 0)", 1);
        e.none("meet()");
    }
}
