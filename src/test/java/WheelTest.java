/** Promises 31 to 37: the wheel, runaways, draws. */
public final class WheelTest {
    public static void main(String[] args) {
        Due due = new Due("Wheel");
        waits(due);
        order(due);
        wheel(due);
        odds(due);
        oddsWrong(due);
        worst(due);
        seed(due);
        due.end();
    }

    private static RollTown onFoot(int... weights) {
        RollTown x = new RollTown();
        for (int i = 0; i < weights.length; i++) {
            x.thing(0, weights[i]);
            x.put(i, 30);
        }
        return x;
    }

    private static void waits(Due due) {
        RollTown x = onFoot(35, 10, 9, 19);
        due.is("31: waits", x.waits(), 4 + 6 + 7 + 9);
        due.is("32: least", x.least(), 1 + 3 + 5 + 9);
        x.put(3, 29);
        x.go(3);
        due.is("31: one not on THE FOOT yet", x.waits(), 4 + 6 + 7);
        due.is("32: one not on THE FOOT yet", x.least(), 1 + 3 + 7);
        x.minutes(1);
        due.is("31: it is now", x.waits(), 26);
        x.wheel(1);
        due.is("31: one UP takes none", x.waits(), 4 + 6 + 8);
        due.is("32: one UP takes none", x.least(), 2 + 4 + 8);
        due.is("31: nobody", new RollTown().waits(), 0);
        due.is("32: nobody", new RollTown().least(), 0);
        RollTown all = onFoot(99, 99, 99, 99, 99, 99, 99, 99, 99, 99);
        due.is("31: ten of 10 minutes", all.waits(), 550);
        due.is("32: ten of 10 minutes", all.least(), 550);
    }

    private static void order(Due due) {
        RollTown x = onFoot(35, 10, 9, 19, 10);
        int[] line = {2, 1, 4, 3, 0};
        for (int i = 0; i < line.length; i++) {
            due.is("33: order(" + i + ")", x.order(i), line[i]);
        }
        due.is("33: order(5)", x.order(5), Due.NONE);
        due.is("33: order(9)", x.order(9), Due.NONE);
        due.is("33: order(10)", x.order(10), Due.BEYOND);
        due.is("33: order(-1)", x.order(-1), Due.BEYOND);
        x.put(1, 3);
        due.is("33: without one", x.order(1), 4);
        RollTown y = onFoot(19, 18, 17);
        due.is("33: by WEIGHTS, though they take alike", y.order(0), 2);
    }

    private static void wheel(Due due) {
        RollTown x = onFoot(35, 10, 9, 19);
        due.is("34: wheel(0)", x.wheel(0), Due.BEYOND);
        due.is("34: wheel(1000)", x.wheel(1000), Due.BEYOND);
        due.is("34: none UP", x.are(3), 0);
        due.is("34: wheel(4)", x.wheel(4), 2);
        due.is("34: UP", x.are(3), 6);
        due.is("34: AT REST", x.are(0), 9);
        due.is("34: minute", x.count(0), 0);
        due.is("34: wheel(1)", x.wheel(1), 0);
        due.is("34: wheel(6)", x.wheel(6), 2);
        due.is("34: all UP", x.are(3), 15);
        due.is("34: nobody is left", x.wheel(999), 0);
        due.is("34: CELL of one UP", x.of(0, 4), 30);
        RollTown y = onFoot(20, 50);
        due.is("34: the first that can't ends it", y.wheel(2), 0);
        due.is("34: wheel(3)", y.wheel(3), 1);
        RollTown z = onFoot(10);
        z.put(0, 29);
        due.is("34: one not on THE FOOT", z.wheel(999), 0);
    }

    /** The SPEEDS of odds(), by the document's formula and in longs. */
    private static int runaways(long z, int n, int above) {
        int out = 0;
        for (int i = 0; i < n; i++) {
            z = (z * 1103515245L + 12345L) & 0xFFFFFFFFL;
            out += 20 + (z / 256) % 30 > above ? 1 : 0;
        }
        return out;
    }

    private static void odds(Due due) {
        RollTown x = new RollTown();
        x.thing(0, 10);
        x.thing(0, 10);
        x.put(1, 2);
        x.fall(0, 3);
        x.ground(1, 3);
        due.is("35: odds(0, 1)", x.odds(0, 1), runaways(1, 1, 40));
        due.is("35: z is drawn once", x.count(6), 1103527590);
        for (int seed : new int[] {1, 2, 3, 77, -1, Integer.MIN_VALUE, 123456789}) {
            x.seed(seed);
            due.is("35: odds(0, 20) from " + seed, x.odds(0, 20), runaways(seed & 0xFFFFFFFFL, 20, 40));
        }
        x.seed(-1);
        x.odds(0, 1);
        due.is("35: z below 0", x.count(6), -1103502900);
        due.is("35: at rest again", x.of(0, 6), 0);
        due.is("35: speed", x.of(0, 5), 0);
        due.is("35: cell", x.of(0, 4), 0);
        due.is("35: minute", x.count(0), 0);
        due.is("35: nobody met", x.count(2), 0);
        x.change(0, 0, 6);
        x.fall(0, -9);
        due.is("35: one that stays on CELL 0 isn't OUT", x.odds(0, 20), 0);
        x.change(0, 0, 0);
        x.fall(0, 3);
        x.ground(1, 0);
        due.is("35: no BEND", x.odds(0, 20), 0);
    }

    private static void oddsWrong(Due due) {
        RollTown x = onFoot(10, 10);
        x.put(1, 0);
        due.is("35: on THE FOOT", x.odds(0, 1), Due.STATE);
        due.is("35: odds(1, 0)", x.odds(1, 0), Due.BEYOND);
        due.is("35: odds(1, 21)", x.odds(1, 21), Due.BEYOND);
        due.is("35: odds(2, 1)", x.odds(2, 1), Due.BEYOND);
        due.is("35: odds(-1, 1)", x.odds(-1, 1), Due.BEYOND);
        x.go(1);
        due.is("35: ROLLING", x.odds(1, 1), Due.STATE);
        due.is("35: ROLLING, BEYOND first", x.odds(1, 21), Due.BEYOND);
        due.is("35: z stays", x.count(6), 1);
    }

    private static void worst(Due due) {
        RollTown x = new RollTown();
        due.is("36: there is none", x.worst(), Due.NONE);
        x.thing(0, 10);
        x.thing(0, 10);
        x.thing(0, 10);
        due.is("36: none has any", x.worst(), Due.NONE);
        x.put(2, 1);
        x.go(1);
        x.minutes(1);
        due.is("36: of several the least", x.worst(), 1);
        x.put(1, 0);
        x.go(0);
        x.minutes(1);
        due.is("36: the most", x.worst(), 2);
        x.put(2, 30);
        x.go(1);
        x.minutes(1);
        x.put(1, 30);
        x.thing(0, 10);
        x.go(3);
        x.minutes(1);
        due.is("36: number 0", x.worst(), 0);
        due.is("36: status(3)", x.status(3), 2);
    }

    private static void seed(Due due) {
        RollTown x = new RollTown();
        due.is("37: seed(5)", x.seed(5), 1);
        due.is("37: seed(-1000001)", x.seed(-1000001), 5);
        due.is("37: seed(0)", x.seed(0), -1000001);
        due.is("37: an answer that is no finding", x.status(-1), 0);
        due.is("37: count(6)", x.count(6), 0);
    }
}
