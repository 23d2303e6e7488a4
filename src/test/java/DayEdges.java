/** Promises 25 to 30, sentence by sentence: the day, drums. */
final class DayEdges {
    private DayEdges() {
    }

    static void all(Edges e) {
        waitTells(e);
        waitFrom0To59(e);
        waitTwoHundredAhead(e);
        waitBeyond(e);
        waitState(e);
        waitNone(e);
        behindUnlike(e);
        behindFrom1To59(e);
        behindBothComeAndDontMeet(e);
        behindTheLeast(e);
        behindNobodyElse(e);
        behindBeyond(e);
        behindState(e);
        behindNone(e);
        comeTells(e);
        comeState(e);
        packTells(e);
        packHasTheLeast(e);
        packOfSeveral(e);
        packBeyond(e);
        leanTells(e);
        leanBeyond(e);
        drumsTells(e);
        drumsBeyond(e);
        drumsNone(e);
    }

    private static void waitTells(Edges e) {
        e.says(25, "How many MINUTES (0 to 59) a THING should wait to be LET GO");
        e.town("thing(0, 10); thing(0, 10)");
        e.tells("wait(0)", 0);
        e.play("go(1)");
        e.tells("wait(0)", 1);
        e.play("put(1, 4)");
        e.tells("wait(0)", 0);
    }

    /** One lies on 2, ahead of a gate: it MEETS that one whenever the gate is SHUT in the MINUTE behind the next. */
    private static void waitFrom0To59(Edges e) {
        e.says(25, "(0 to 59)");
        e.town("thing(0, 10); thing(0, 10); ground(3, 4); put(1, 2); gate(0, 1); gate(1, 59)");
        e.tells("wait(0)", 59);
        e.play("minutes(1)");
        e.tells("wait(0)", 58);
        e.play("minutes(58)");
        e.tells("wait(0)", 0);
        e.play("minutes(1)");
        e.tells("wait(0)", 59);
    }

    private static void waitTwoHundredAhead(Edges e) {
        e.says(25, "so that nobody MEETS in 200 MINUTES AHEAD from then: the least.");
        e.town("thing(0, 10); thing(0, 10); put(1, 2); ground(3, 4)");
        e.tells("wait(0)", 14);
        e.town("thing(0, 10); thing(0, 10); thing(0, 10); put(0, 4); put(1, 5); put(2, 20); go(0)");
        e.tells("wait(2)", 1);
        e.play("put(0, 0); go(0)");
        e.tells("wait(2)", 3);
    }

    private static void waitBeyond(Edges e) {
        e.says(25, "BEYOND.");
        e.beyond("wait(0)");
        e.town("thing(0, 10)");
        e.beyond("wait(-1)", "wait(1)", "wait(least)", "wait(most)");
    }

    private static void waitState(Edges e) {
        e.says(25, "STATE: it isn't AT REST, or on THE FOOT, or MINUTE is above 9740.");
        e.town("thing(0, 10); thing(0, 10); thing(0, 10); thing(0, 10); put(0, 5); fall(5, 9); ground(6, 3); go(0); minutes(1)");
        e.play("put(1, 30); wheel(2); put(2, 30); go(3)");
        e.state("wait(0)", "wait(1)", "wait(2)", "wait(3)");
        e.town("thing(0, 10)");
        e.minute(9740);
        e.tells("wait(0)", 0);
        e.play("minutes(1)");
        e.state("wait(0)");
        e.minute(9999);
        e.state("wait(0)");
    }

    private static void waitNone(Edges e) {
        e.says(25, "NONE.");
        e.town("thing(0, 10); thing(0, 10); put(1, 5)");
        e.none("wait(0)");
        e.play("put(1, 2); ground(3, 4); gate(0, 0); gate(1, 59)");
        e.none("wait(0)");
    }

    private static void behindUnlike(Edges e) {
        e.says(26, "Of two unlike THINGS AT REST on one CELL (not THE FOOT)");
        e.town("thing(0, 10); thing(0, 10); thing(0, 10)");
        e.beyond("behind(0, 0)", "behind(1, 1)", "behind(2, 2)");
        e.tells("behind(0, 1)", 1);
        e.play("put(0, 28); put(1, 28)");
        e.tells("behind(0, 1)", 1);
        e.tells("behind(1, 0)", 1);
        e.state("behind(0, 2)", "behind(2, 0)");
        e.play("put(0, 30); put(1, 30)");
        e.state("behind(0, 1)");
    }

    /** The first one goes through the gate; the other one comes to it in the next MINUTE but one. */
    private static void behindFrom1To59(Edges e) {
        e.says(26, "how many MINUTES (1 to 59) the other one should be LET GO behind the first");
        e.town("thing(0, 10); thing(0, 10); ground(3, 4); gate(0, 2); gate(1, 59)");
        e.tells("behind(0, 1)", 59);
        e.play("gate(1, 58)");
        e.tells("behind(0, 1)", 58);
        e.play("gate(0, 3); gate(1, 59)");
        e.tells("behind(0, 1)", 1);
        e.play("gate(0, 2); gate(1, 0)");
        e.none("behind(0, 1)");
    }

    private static void behindBothComeAndDontMeet(Edges e) {
        e.says(26, "so that both come to THE FOOT and don't MEET:");
        e.town("thing(0, 10); thing(1, 10)");
        e.tells("behind(0, 1)", 2);
        e.tells("behind(1, 0)", 1);
        e.play("ground(13, 3)");
        e.none("behind(0, 1)", "behind(1, 0)");
        e.play("change(1, 0, 3)");
        e.none("behind(0, 1)", "behind(1, 0)");
        e.town("thing(0, 10); thing(3, 10); ground(13, 3); change(0, 0, 3)");
        e.tells("behind(0, 1)", 1);
    }

    private static void behindTheLeast(Edges e) {
        e.says(26, "the least;");
        e.town("thing(0, 10); thing(0, 10); ground(3, 4)");
        e.minute(15);
        e.tells("behind(0, 1)", 1);
        e.play("gate(0, 17); gate(1, 40)");
        e.tells("behind(0, 1)", 25);
    }

    private static void behindNobodyElse(Edges e) {
        e.says(26, "nobody else being there.");
        e.town("thing(0, 10); thing(0, 10); thing(0, 10); thing(0, 10); put(2, 5); put(3, 4); go(3)");
        e.tells("meet()", 1);
        e.none("wait(0)");
        e.tells("behind(0, 1)", 1);
        e.play("put(3, 0); go(3); put(2, 1)");
        e.tells("behind(0, 1)", 1);
        for (int inTheWay = 0; inTheWay < 3; inTheWay++) {
            e.town("thing(0, 10); thing(0, 10); thing(0, 10); put(" + inTheWay + ", 5)");
            int one = (inTheWay + 1) % 3;
            int other = (inTheWay + 2) % 3;
            e.tells("behind(" + one + ", " + other + ")", 1);
            e.tells("behind(" + other + ", " + one + ")", 1);
        }
    }

    private static void behindBeyond(Edges e) {
        e.says(26, "BEYOND.");
        e.beyond("behind(0, 0)", "behind(0, 1)");
        e.town("thing(0, 10); thing(0, 10)");
        e.beyond("behind(-1, 0)", "behind(0, -1)", "behind(2, 0)", "behind(0, 2)", "behind(2, 2)", "behind(0, 0)");
        e.beyond("behind(least, 0)", "behind(0, most)", "behind(most, most)");
    }

    private static void behindState(Edges e) {
        e.says(26, "STATE: it isn't so, or MINUTE is above 9740.");
        e.town("thing(0, 10); thing(0, 10); put(1, 1)");
        e.state("behind(0, 1)", "behind(1, 0)");
        e.play("put(1, 0); go(1)");
        e.state("behind(0, 1)", "behind(1, 0)");
        e.play("put(1, 30); put(0, 30)");
        e.state("behind(0, 1)", "behind(1, 0)");
        e.play("wheel(2)");
        e.state("behind(0, 1)", "behind(1, 0)");
        e.town("thing(0, 10); thing(0, 10); put(0, 5); fall(5, 9); ground(6, 3); go(0); minutes(1); put(1, 6)");
        e.state("behind(0, 1)", "behind(1, 0)");
        e.town("thing(0, 10); thing(0, 10)");
        e.minute(9740);
        e.tells("behind(0, 1)", 1);
        e.play("minutes(1)");
        e.state("behind(0, 1)");
    }

    private static void behindNone(Edges e) {
        e.says(26, "NONE.");
        e.town("thing(0, 10); thing(6, 10)");
        e.none("behind(0, 1)", "behind(1, 0)");
        e.town("thing(0, 10); thing(0, 10); put(0, 5); put(1, 5); fall(5, 0)");
        e.none("behind(0, 1)");
    }

    private static void comeTells(Edges e) {
        e.says(27, "Of the THINGS AT REST on CELL 0 how many would come to THE FOOT by a ROLL ALONE now.");
        e.tells("come()", 0);
        e.town("thing(0, 10);".repeat(10));
        e.tells("come()", 10);
        e.play("change(0, 0, 6); put(1, 1); go(2); put(3, 30)");
        e.tells("come()", 6);
        e.play("ground(3, 4)");
        e.tells("come()", 0);
        e.minute(14);
        e.tells("come()", 6);
        e.play("ground(13, 3); change(9, 0, 3)");
        e.tells("come()", 1);
    }

    private static void comeState(Edges e) {
        e.says(27, "STATE: MINUTE is above 9799.");
        e.town("thing(0, 10)");
        e.minute(9799);
        e.tells("come()", 1);
        e.play("minutes(1)");
        e.state("come()");
        e.town("");
        e.minute(9800);
        e.state("come()");
    }

    private static void weights(Edges e, int... weights) {
        e.town("");
        for (int weight : weights) {
            e.play("thing(0, " + weight + ")");
        }
    }

    private static void packTells(Edges e) {
        e.says(28, "The set of THINGS (of all there are, told as a set) that should lie on the left so that both sides weigh as alike as can be,");
        weights(e, 10, 20, 30);
        e.tells("pack(7)", 3);
        e.tells("pack(6)", 2);
        e.play("put(0, 30); wheel(2); go(1)");
        e.tells("pack(7)", 3);
        weights(e, 99, 98, 97, 96, 95, 94, 93, 92, 91, 1);
        e.tells("pack(1023)", 0b1000001111);
    }

    private static void packHasTheLeast(Edges e) {
        e.says(28, "and it has the least of them (number 0, 1, ..):");
        weights(e, 99, 1, 1);
        e.tells("pack(7)", 1);
        e.tells("pack(6)", 2);
        weights(e, 1, 99, 1);
        e.tells("pack(7)", 5);
        weights(e, 5, 5, 5, 5, 5, 5, 5, 5, 5, 5);
        for (int i = 0; i < 10; i++) {
            e.tells("pack(" + (1 << i) + ")", 1 << i);
        }
        e.tells("pack(768)", 256);
    }

    private static void packOfSeveral(Edges e) {
        e.says(28, "of several the least set.");
        weights(e, 10, 10, 10, 10);
        e.tells("pack(15)", 3);
        e.tells("pack(14)", 2);
        e.tells("pack(13)", 1);
        weights(e, 5, 7, 3);
        e.tells("pack(7)", 5);
        weights(e, 20, 10, 10, 20, 20);
        e.tells("pack(31)", 7);
        weights(e, 1, 3);
        e.tells("pack(3)", 1);
        weights(e, 4, 4, 3, 3, 3, 3);
        e.due("drums(63, 10)", 2);
        e.due("pack(63)", 13);
        e.due("lean(62)", 2);
        e.due("drums(63, 9)", 3);
        e.due("lean(63)", 0);
    }

    private static void packBeyond(Edges e) {
        e.says(28, "BEYOND: bits of no THING, or none.");
        e.beyond("pack(0)", "pack(1)");
        weights(e, 10, 20, 30);
        e.beyond("pack(0)", "pack(8)", "pack(9)", "pack(15)", "pack(-1)", "pack(1024)", "pack(least)", "pack(most)");
        weights(e, 1, 1, 1, 1, 1, 1, 1, 1, 1, 1);
        e.tells("pack(1023)", 31);
        e.beyond("pack(1024)", "pack(2047)", "pack(-2147482625)");
    }

    private static void leanTells(Edges e) {
        e.says(29, "By how much both sides differ then.");
        weights(e, 10, 20, 30);
        e.tells("lean(7)", 0);
        e.tells("lean(6)", 10);
        e.tells("lean(4)", 30);
        weights(e, 1, 99, 1);
        e.tells("lean(7)", 97);
        e.tells("lean(5)", 0);
        e.tells("lean(1)", 1);
        weights(e, 99, 98, 97, 96, 95, 94, 93, 92, 91, 1);
        e.tells("lean(1023)", 465 - 391);
        weights(e, 99, 99, 99, 99, 99, 99, 99, 99, 99, 99);
        e.tells("lean(1023)", 0);
        e.tells("lean(511)", 99);
    }

    private static void leanBeyond(Edges e) {
        e.says(29, "BEYOND.");
        e.beyond("lean(0)", "lean(1)");
        weights(e, 10, 20, 30);
        e.beyond("lean(0)", "lean(8)", "lean(9)", "lean(-1)", "lean(1024)", "lean(least)", "lean(most)");
    }

    private static void drumsTells(Edges e) {
        e.says(30, "The fewest drums (each holds WEIGHT most (1 to 999) together) for a set of THINGS.");
        weights(e, 1, 1);
        e.tells("drums(1, 1)", 1);
        e.tells("drums(3, 1)", 2);
        e.tells("drums(3, 2)", 1);
        e.tells("drums(3, 999)", 1);
        weights(e, 4, 4, 3, 3, 3, 3);
        e.tells("drums(63, 10)", 2);
        e.tells("drums(63, 9)", 3);
        e.tells("drums(60, 6)", 2);
        weights(e, 6, 5, 5, 4, 4, 3, 3);
        e.tells("drums(127, 15)", 2);
        e.tells("drums(127, 14)", 3);
        weights(e, 99, 99, 99, 99, 99, 99, 99, 99, 99, 99);
        e.tells("drums(1023, 99)", 10);
        e.tells("drums(1023, 198)", 5);
        e.tells("drums(1023, 989)", 2);
        e.tells("drums(1023, 990)", 1);
        e.tells("drums(1023, 999)", 1);
        e.tells("drums(512, 99)", 1);
    }

    private static void drumsBeyond(Edges e) {
        e.says(30, "BEYOND.");
        e.beyond("drums(0, 1)", "drums(1, 1)");
        weights(e, 10, 20, 30);
        e.beyond("drums(0, 30)", "drums(8, 30)", "drums(9, 30)", "drums(-1, 30)", "drums(least, 30)", "drums(most, 30)");
        e.beyond("drums(7, 0)", "drums(7, 1000)", "drums(7, -1)", "drums(7, least)", "drums(7, most)");
    }

    private static void drumsNone(Edges e) {
        e.says(30, "NONE: one is heavier.");
        weights(e, 10, 20, 30);
        e.none("drums(7, 29)", "drums(7, 1)", "drums(4, 29)", "drums(5, 10)");
        e.tells("drums(7, 30)", 2);
        e.tells("drums(3, 20)", 2);
        e.tells("drums(1, 10)", 1);
        e.none("drums(1, 9)");
    }
}
