/** What the Terms say of all acts: findings, their order, quotients, sets. */
final class FindingsEdges {
    private static final String ORDER = "Each act tells its findings in the order in which they are asked (that of its words);";
    private static final String NOTHING_CHANGES = "one that answers a finding changes nothing but status().";
    /** A THING that goes on and on: with SPEED 8 its GAIN is its DRAG. */
    private static final String ON_AND_ON = "put(0, 6); fall(6, 0); go(0); minutes(1); fall(6, 1); change(0, 2, 2)";

    private FindingsEdges() {
    }

    static void all(Edges e) {
        theFindings(e);
        orderForThings(e);
        orderForMinutes(e);
        orderForRolls(e);
        orderForTheDay(e);
        orderForDrumsAndWheel(e);
        orderForTheTape(e);
        orderForSheets(e);
        refusedActsOfADay(e);
        refusedActsLate(e);
        quotientsAreCut(e);
        setsAreBits(e);
        theLeastCounts(e);
    }

    private static void theFindings(Edges e) {
        e.says(0, "FINDINGS are answers below -1000000: LOW is -1000001; LOW BEYOND, LOW - 1 FULL, LOW - 2 KIND, LOW - 3 NONE,"
            + " LOW - 4 STATE, LOW - 5 MISSING, LOW - 6 SIZE.");
        e.town("thing(0, 10); hold(0, 0); go(0); " + "thing(0, 10);".repeat(9));
        e.due("fall(31, 0)", -1000001);
        e.due("thing(0, 10)", -1000002);
        e.due("as(0, 1)", -1000003);
        e.due("undo()", -1000004);
        e.due("go(0)", -1000005);
        e.due("as(1, 0)", -1000006);
        e.due("sheet(0, 8, -1)", -1000007);
        for (int which = 0; which < 7; which++) {
            e.due("status(" + which + ")", 1);
        }
        e.due("status(-1)", 7);
    }

    private static void orderForThings(Edges e) {
        e.says(0, ORDER);
        e.town("thing(0, 10);".repeat(10));
        e.beyond("thing(7, 10)", "thing(0, 0)");
        e.full("thing(0, 10)");
    }

    private static void orderForMinutes(Edges e) {
        e.says(0, ORDER);
        e.town("thing(0, 10)");
        e.minute(9999);
        e.beyond("minutes(0)", "minutes(121)", "ahead(201, 0)", "ahead(200, 5)", "ahead(200, -1)");
        e.state("minutes(120)", "ahead(200, 4)", "meet()");
    }

    private static void orderForRolls(Edges e) {
        e.says(0, ORDER);
        e.town("thing(0, 10)");
        e.minute(9798);
        e.play(ON_AND_ON);
        e.none("ends(0)", "takes(0)", "sand(0, 0)");
        e.play("minutes(1)");
        e.state("ends(0)", "takes(0)", "sand(0, 0)", "rollsFor(0)");
        e.beyond("ends(1)", "takes(1)", "speed(1)", "seen(1)", "rollsFor(1)", "matters(1)", "kindFor(1)");
        e.beyond("sand(1, 0)", "sand(0, 31)", "sand(0, -1)");
    }

    private static void orderForTheDay(Edges e) {
        e.says(0, ORDER);
        e.town("thing(0, 10); thing(0, 10); put(0, 5); put(1, 5); fall(5, 0)");
        e.minute(9740);
        e.none("wait(0)", "behind(0, 1)");
        e.play("minutes(1)");
        e.state("wait(0)", "behind(0, 1)");
        e.beyond("wait(2)", "behind(0, 2)", "behind(0, 0)");
        e.play("put(0, 30)");
        e.beyond("behind(0, 0)", "behind(0, -1)", "odds(0, 0)", "odds(0, 21)");
        e.state("wait(0)", "behind(0, 1)", "odds(0, 20)");
    }

    private static void orderForDrumsAndWheel(Edges e) {
        e.says(0, ORDER);
        e.town("thing(0, 10); thing(0, 99)");
        e.beyond("drums(4, 1)", "drums(0, 1)", "drums(3, 0)", "order(10)", "order(-1)");
        e.none("drums(3, 98)", "order(0)");
    }

    private static void orderForTheTape(Edges e) {
        e.says(0, ORDER);
        e.feed(" ".repeat(120));
        e.beyond("feed(0, 0)", "feed(0, 5)");
        e.full("feed(0, 1)", "feed(0, 4)");
    }

    private static void orderForSheets(Edges e) {
        e.says(0, ORDER);
        e.town("thing(3, 10); hold(0, 0); sheet(0, 8, 2); sheet(1, 16, 2)");
        e.beyond("as(1, 7)", "as(10, 0)", "as(0, -1)");
        e.missing("as(1, 6)");
        e.kind("as(0, 6)");
        e.beyond("sheet(4, 8, -1)", "sheet(0, 7, -1)", "sheet(4, 0, -1)", "sheet(0, 7, 41)");
        e.size("sheet(0, 0, -1)");
        e.beyond("write(4, -1, 0)");
        e.missing("write(2, -1, 0)", "write(2, 40, 0)");
        e.beyond("copy(2, 0, 4, 0, 0)", "copy(4, 0, 2, 0, 0)", "copy(0, 0, -1, 0, -1)");
        e.missing("copy(0, 0, 2, 0, -1)", "copy(2, -1, 1, 0, 0)", "copy(2, 0, 3, 0, 9)");
        e.kind("copy(0, 0, 1, 0, 3)", "copy(0, -1, 1, 0, 0)", "copy(1, 0, 0, 0, -1)");
        e.beyond("load(4, 31)");
        e.missing("load(2, 31)", "load(2, -1)");
        e.beyond("judge(4, 1)", "judge(0, 1)");
        e.missing("judge(2, 1)", "judge(2, -1)");
        e.minute(9998);
        e.beyond("judge(0, 1)");
        e.state("judge(0, 0)");
        e.missing("judge(2, 0)");
    }

    /** A day on which there is something of everything that a refused act might change. */
    private static void fullDay(Edges e) {
        e.town("thing(0, 10); thing(1, 20); thing(2, 30); thing(3, 40); change(2, 3, 5); put(0, 30); wheel(2)");
        e.play("put(1, 8); fall(8, 9); ground(9, 3); go(1); put(3, 3); go(2); minutes(1)");
        e.play("hold(0, 0); hold(9, 3); seed(77); gate(0, 50); gate(1, 10); ground(20, 2); image(); put(3, 4); seed(78)");
        e.play("sheet(0, 8, 3); write(0, 0, 1); write(0, 1, -2); sheet(1, 16, 40); sheet(2, 32, 0)");
        e.feed("sand 3;fall 4 by 5;ring");
    }

    private static void refusedActsOfADay(Edges e) {
        e.says(0, NOTHING_CHANGES);
        fullDay(e);
        e.beyond("fall(31, 1)", "ground(31, 1)", "gate(2, 1)", "shut(10000)", "thing(7, 1)", "of(4, 0)", "change(0, 4, 1)");
        e.beyond("told(0, 2, 0)", "put(0, 31)", "minutes(0)", "are(4)", "on(31)", "ahead(201, 0)", "sand(3, 31)");
        e.beyond("behind(0, 0)", "pack(16)", "lean(16)", "drums(16, 1)", "order(10)", "wheel(1000)", "odds(3, 21)");
        e.beyond("feed(0, 5)", "hold(10, 0)", "as(0, 7)", "sheet(0, 9, 1)", "sheet(0, 16, 41)", "write(0, 3, 1)");
        e.beyond("copy(0, 0, 0, 2, 2)", "load(0, 31)", "judge(0, 4)", "count(8)", "status(7)", "go(4)", "wait(4)");
        e.state("go(0)", "go(1)", "go(2)", "ends(0)", "takes(0)", "speed(1)", "seen(1)", "sand(1, 3)", "rollsFor(0)");
        e.state("matters(0)", "kindFor(0)", "wait(2)", "behind(2, 3)", "odds(2, 1)");
        e.none("drums(15, 39)", "order(0)", "sand(3, 0)", "worst()");
        e.kind("as(9, 2)", "copy(0, 0, 1, 0, 1)");
        e.missing("as(1, 0)", "write(3, 0, 0)", "copy(3, 0, 0, 0, 0)", "load(3, 0)", "judge(3, 0)");
        e.size("sheet(0, 32, -1)", "sheet(1, 0, -1)");
        e.feed(" ".repeat(96));
        e.full("feed(0, 2)");
        e.play("tear()");
        e.none("undo()");
        e.play("thing(0, 10);".repeat(6));
        e.full("thing(0, 10)");
    }

    private static void refusedActsLate(Edges e) {
        e.says(0, NOTHING_CHANGES);
        fullDay(e);
        e.minute(9998);
        e.play("put(2, 5); go(2)");
        e.state("minutes(2)", "ahead(2, 0)", "meet()", "come()", "ends(3)", "takes(3)", "speed(3)", "seen(3)", "sand(3, 5)");
        e.state("rollsFor(3)", "matters(3)", "kindFor(3)", "wait(3)", "behind(3, 2)", "odds(3, 3)", "judge(0, 2)");
    }

    private static void quotientsAreCut(Edges e) {
        e.says(0, "Quotients are cut.");
        e.town("thing(3, 19); change(0, 2, 1); fall(0, 0)");
        e.tells("told(0, 0, 0)", 3);
        e.play("change(0, 1, 9)");
        e.tells("told(0, 0, 0)", 2);
        e.play("change(0, 1, 99)");
        e.tells("told(0, 0, 0)", 11);
        e.play("fall(0, 0); go(0); minutes(1)");
        e.tells("of(0, 5)", 19);
        e.tells("of(0, 4)", 1);
        e.play("put(0, 30); change(0, 1, 19)");
        e.tells("waits()", 2);
    }

    private static void setsAreBits(Edges e) {
        e.says(0, "Sets are told as bits;");
        e.town("thing(0, 10);".repeat(10));
        e.tells("are(0)", 1023);
        e.tells("on(0)", 1023);
        e.play("put(0, 1); put(9, 1)");
        e.tells("on(1)", 513);
        e.tells("on(0)", 510);
        e.play("put(0, 29)");
        e.tells("seen(0)", 3 << 29);
    }

    private static void theLeastCounts(Edges e) {
        e.says(0, "of several that would do the least number counts, where nothing else is told.");
        e.town("thing(0, 10); thing(0, 10); thing(0, 10); put(1, 29)");
        e.tells("kindFor(1)", 0);
        e.tells("rollsFor(1)", 1);
        e.tells("sand(1, 30)", 0);
        e.tells("wait(1)", 0);
        e.play("put(2, 1); go(0); minutes(1)");
        e.tells("worst()", 0);
    }
}
