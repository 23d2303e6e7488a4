/** Promises 28 to 30: drums packed even or not. */
public final class DrumsTest {
    public static void main(String[] args) {
        Due due = new Due("Drums");
        pack(due);
        packOfSeveral(due);
        drums(due);
        wrong(due);
        due.end();
    }

    private static RollTown with(int... weights) {
        RollTown x = new RollTown();
        for (int weight : weights) {
            x.thing(0, weight);
        }
        return x;
    }

    private static void both(Due due, RollTown x, int things, int left, int apart) {
        due.is("28: pack(" + things + ")", x.pack(things), left);
        due.is("29: lean(" + things + ")", x.lean(things), apart);
    }

    private static void pack(Due due) {
        RollTown x = with(10, 20, 30);
        both(due, x, 7, 3, 0);
        both(due, x, 6, 2, 10);
        both(due, x, 5, 1, 20);
        both(due, x, 4, 4, 30);
        both(due, x, 1, 1, 10);
        x.go(0);
        x.put(1, 30);
        x.wheel(9);
        both(due, x, 7, 3, 0);
        RollTown y = with(99, 98, 97, 96, 95, 94, 93, 92, 91, 1);
        both(due, y, 1023, 0b1000001111, 465 - 391);
    }

    private static void packOfSeveral(Due due) {
        both(due, with(10, 10, 10), 7, 1, 10);
        both(due, with(10, 10, 10), 6, 2, 0);
        both(due, with(10, 20, 20, 10), 15, 3, 0);
        both(due, with(30, 10, 10, 10), 15, 1, 0);
        both(due, with(1, 99, 99, 1), 15, 3, 0);
        both(due, with(1, 1, 99, 99), 15, 5, 0);
        both(due, with(5, 7, 3), 7, 5, 1);
    }

    private static void drums(Due due) {
        RollTown x = with(4, 4, 3, 3, 3, 3);
        due.is("30: two, though the heavy ones together would need three", x.drums(63, 10), 2);
        due.is("30: drums(63, 9)", x.drums(63, 9), 3);
        due.is("30: drums(63, 20)", x.drums(63, 20), 1);
        due.is("30: drums(63, 19)", x.drums(63, 19), 2);
        due.is("30: drums(63, 4)", x.drums(63, 4), 6);
        due.is("30: drums(63, 3)", x.drums(63, 3), Due.NONE);
        due.is("30: drums(60, 3)", x.drums(60, 3), 4);
        due.is("30: drums(1, 3)", x.drums(1, 3), Due.NONE);
        due.is("30: drums(1, 4)", x.drums(1, 4), 1);
        due.is("30: drums(33, 999)", x.drums(33, 999), 1);
        both(due, x, 63, 13, 0);
        both(due, x, 62, 6, 2);
        due.is("30: drums(63, 10) behind pack", x.drums(63, 10), 2);
        RollTown y = with(99, 99, 99, 99, 99, 99, 99, 99, 99, 99);
        due.is("30: drums(1023, 99)", y.drums(1023, 99), 10);
        due.is("30: drums(1023, 197)", y.drums(1023, 197), 10);
        due.is("30: drums(1023, 198)", y.drums(1023, 198), 5);
        due.is("30: drums(1023, 990)", y.drums(1023, 990), 1);
        due.is("30: drums(1023, 989)", y.drums(1023, 989), 2);
        due.is("30: drums(512, 98)", y.drums(512, 98), Due.NONE);
    }

    private static void wrong(Due due) {
        RollTown x = with(10, 20, 30);
        String before = Due.view(x);
        for (int set : new int[] {0, 8, 15, -1, 1 << 10, Integer.MIN_VALUE, Integer.MAX_VALUE}) {
            due.is("28: pack(" + set + ")", x.pack(set), Due.BEYOND);
            due.is("29: lean(" + set + ")", x.lean(set), Due.BEYOND);
            due.is("30: drums(" + set + ", 5)", x.drums(set, 5), Due.BEYOND);
        }
        due.is("30: drums(7, 0)", x.drums(7, 0), Due.BEYOND);
        due.is("30: drums(7, 1000)", x.drums(7, 1000), Due.BEYOND);
        due.is("30: drums(7, 1)", x.drums(7, 1), Due.NONE);
        due.same("28 to 30: what they leave", Due.view(x), before);
        due.is("28 to 30: status(0)", x.status(0), 23);
        due.is("28 to 30: status(3)", x.status(3), 1);
        RollTown none = new RollTown();
        due.is("28: pack(1) of nobody", none.pack(1), Due.BEYOND);
        due.is("28: pack(0) of nobody", none.pack(0), Due.BEYOND);
    }
}
