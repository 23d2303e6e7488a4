/** Promises 31 to 37, sentence by sentence. */
final class WheelEdges {
    private WheelEdges() {
    }

    static void all(Edges e) {
        waitsTells(e);
        leastTells(e);
        orderTells(e);
        orderOfLikeWeights(e);
        orderBeyond(e);
        orderNone(e);
        wheelGoes(e);
        wheelEnds(e);
        wheelBeyond(e);
        oddsTells(e);
        oddsPutBack(e);
        oddsBeyond(e);
        oddsState(e);
        worstTells(e);
        worstNone(e);
        seedBecomes(e);
    }

    private static void onFoot(Edges e, int... weights) {
        e.town("");
        for (int i = 0; i < weights.length; i++) {
            e.play("thing(0, " + weights[i] + "); put(" + i + ", 30)");
        }
    }

    private static void waitsTells(Edges e) {
        e.says(31, "WAITS of THINGS AT REST on THE FOOT, by numbers.");
        e.tells("waits()", 0);
        onFoot(e, 35, 10, 9, 19);
        e.tells("waits()", 4 + 6 + 7 + 9);
        e.play("put(1, 29); go(1)");
        e.tells("waits()", 4 + 5 + 7);
        e.play("minutes(1)");
        e.tells("waits()", 26);
        e.play("wheel(1)");
        e.tells("waits()", 4 + 6 + 8);
        onFoot(e, 99, 99, 99, 99, 99, 99, 99, 99, 99, 99);
        e.tells("waits()", 550);
    }

    private static void leastTells(Edges e) {
        e.says(32, "The least WAITS of all orders.");
        e.tells("least()", 0);
        onFoot(e, 35, 10, 9, 19);
        e.tells("least()", 1 + 3 + 5 + 9);
        e.play("put(2, 0)");
        e.tells("least()", 2 + 4 + 8);
        onFoot(e, 99, 90, 80, 70, 60, 50, 40, 30, 20, 1);
        e.tells("least()", 1 + 4 + 8 + 13 + 19 + 26 + 34 + 43 + 53 + 63);
        e.tells("waits()", 10 + 20 + 29 + 37 + 44 + 50 + 55 + 59 + 62 + 63);
    }

    private static void orderTells(Edges e) {
        e.says(33, "The i-th one (0 to 9) in the order of least WAITS");
        onFoot(e, 99, 90, 80, 70, 60, 50, 40, 30, 20, 1);
        for (int i = 0; i < 10; i++) {
            e.tells("order(" + i + ")", 9 - i);
        }
        e.play("put(9, 29)");
        e.tells("order(0)", 8);
        e.tells("order(8)", 0);
        e.none("order(9)");
    }

    private static void orderOfLikeWeights(Edges e) {
        e.says(33, "(of like WEIGHTS that with the least number first).");
        onFoot(e, 40, 20, 40, 20, 40, 20, 40, 20, 40, 20);
        int[] line = {1, 3, 5, 7, 9, 0, 2, 4, 6, 8};
        for (int i = 0; i < 10; i++) {
            e.tells("order(" + i + ")", line[i]);
        }
    }

    private static void orderBeyond(Edges e) {
        e.says(33, "BEYOND.");
        onFoot(e, 10);
        e.beyond("order(-1)", "order(10)", "order(least)", "order(most)");
    }

    private static void orderNone(Edges e) {
        e.says(33, "NONE.");
        e.none("order(0)", "order(9)");
        onFoot(e, 10, 20);
        e.tells("order(1)", 1);
        e.none("order(2)", "order(9)");
        e.play("wheel(2)");
        e.tells("order(0)", 1);
        e.none("order(1)");
    }

    private static void wheelGoes(Edges e) {
        e.says(34, "The wheel goes for n minutes (1 to 999): in that order each that can be up by then is UP");
        onFoot(e, 35, 10, 9, 19);
        e.due("wheel(1)", 1);
        e.tells("are(3)", 4);
        e.due("wheel(3)", 1);
        e.tells("are(3)", 6);
        e.due("wheel(6)", 2);
        e.tells("are(3)", 15);
        onFoot(e, 35, 10, 9, 19);
        e.due("wheel(9)", 4);
        onFoot(e, 35, 10, 9, 19);
        e.due("wheel(8)", 3);
        e.tells("are(3)", 14);
        onFoot(e, 99, 99, 99, 99, 99, 99, 99, 99, 99, 99);
        e.due("wheel(99)", 9);
        e.due("wheel(999)", 1);
        e.due("wheel(999)", 0);
    }

    private static void wheelEnds(Edges e) {
        e.says(34, "(the first that can't ends it): how many.");
        onFoot(e, 20, 50);
        e.due("wheel(2)", 0);
        e.tells("are(3)", 0);
        e.due("wheel(8)", 1);
        e.tells("are(3)", 1);
        e.due("wheel(5)", 0);
        e.due("wheel(6)", 1);
        e.town("thing(0, 10); put(0, 29)");
        e.due("wheel(999)", 0);
    }

    private static void wheelBeyond(Edges e) {
        e.says(34, "BEYOND.");
        onFoot(e, 1);
        e.beyond("wheel(0)", "wheel(1000)", "wheel(-1)", "wheel(least)", "wheel(most)");
    }

    /** How often SPEED 10 and the rest of a draw by 30, and 10 more by its CELL, is above 40. */
    private static int runaways(int seed, int n) {
        long z = seed & 0xFFFFFFFFL;
        int out = 0;
        for (int i = 0; i < n; i++) {
            z = (z * 1103515245L + 12345L) & 0xFFFFFFFFL;
            out += 20 + (z / 256) % 30 > 40 ? 1 : 0;
        }
        return out;
    }

    private static void oddsTells(Edges e) {
        e.says(35, "Runaways: n times (1 to 20) a THING is LET GO ALONE with a SPEED of 10 and the rest of a draw by 30 more: how often it is OUT");
        for (int seed : new int[] {1, 5, -1, 0, Integer.MAX_VALUE, Integer.MIN_VALUE}) {
            for (int n : new int[] {1, 2, 19, 20}) {
                e.town("thing(0, 10); thing(0, 10); put(1, 2); fall(0, 3); ground(1, 3); seed(" + seed + ")");
                e.due("odds(0, " + n + ")", runaways(seed, n));
            }
        }
        e.town("thing(0, 10)");
        e.due("odds(0, 20)", 0);
        e.play("fall(0, -9); change(0, 2, 9); ground(1, 3)");
        e.due("odds(0, 20)", 0);
        e.play("fall(0, 9); ground(1, 3); change(0, 2, 9)");
        e.due("odds(0, 20)", 20);
    }

    private static void oddsPutBack(Edges e) {
        e.says(35, "(all is put back but z).");
        e.town("thing(0, 10); thing(0, 10); put(1, 2); fall(0, 9); ground(1, 3); image()");
        e.due("odds(0, 2)", 2);
        int z = (int) (1103527590L * 1103515245L + 12345L);
        e.tells("count(6)", z);
        e.tells("of(0, 4)", 0);
        e.tells("of(0, 5)", 0);
        e.tells("are(0)", 3);
        e.tells("count(0)", 0);
        e.tells("count(2)", 0);
        e.play("undo()");
        e.tells("count(6)", 1);
    }

    private static void oddsBeyond(Edges e) {
        e.says(35, "BEYOND.");
        e.beyond("odds(0, 1)");
        e.town("thing(0, 10)");
        e.beyond("odds(-1, 1)", "odds(1, 1)", "odds(least, 1)", "odds(most, 1)");
        e.beyond("odds(0, 0)", "odds(0, 21)", "odds(0, -1)", "odds(0, least)", "odds(0, most)");
    }

    private static void oddsState(Edges e) {
        e.says(35, "STATE: it isn't AT REST, or on THE FOOT, or MINUTE is above 9799.");
        e.town("thing(0, 10); thing(0, 10); thing(0, 10); thing(0, 10); put(0, 5); fall(5, 9); ground(6, 3); go(0); minutes(1)");
        e.play("put(1, 30); wheel(2); put(2, 30); go(3)");
        e.state("odds(0, 1)", "odds(1, 1)", "odds(2, 1)", "odds(3, 1)");
        e.town("thing(0, 10)");
        e.minute(9799);
        e.due("odds(0, 1)", 0);
        e.play("minutes(1)");
        e.state("odds(0, 1)");
    }

    private static void worstTells(Edges e) {
        e.says(36, "Who pays: the THING with most DAMAGE.");
        e.town("thing(0, 10); thing(0, 10); thing(0, 10); put(2, 1); go(1); minutes(1)");
        e.tells("worst()", 1);
        e.play("put(1, 0); go(0); minutes(1)");
        e.tells("worst()", 2);
        e.play("put(2, 30); wheel(2)");
        e.tells("worst()", 2);
        e.play("go(1); minutes(1)");
        e.tells("of(2, 7)", 2);
        e.tells("worst()", 0);
    }

    private static void worstNone(Edges e) {
        e.says(36, "NONE: there is none, or none has any.");
        e.none("worst()");
        e.town("thing(0, 10); thing(0, 10)");
        e.none("worst()");
    }

    private static void seedBecomes(Edges e) {
        e.says(37, "z becomes v: what it was.");
        e.due("seed(least)", 1);
        e.due("seed(most)", Integer.MIN_VALUE);
        e.due("seed(-1000001)", Integer.MAX_VALUE);
        e.due("seed(0)", -1000001);
        e.tells("count(6)", 0);
        e.tells("status(-1)", 0);
    }
}
