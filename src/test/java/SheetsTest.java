/** Promises 41 to 47: spots, sheets. */
public final class SheetsTest {
    public static void main(String[] args) {
        Due due = new Due("Sheets");
        hold(due);
        as(due);
        sheet(due);
        write(due);
        copy(due);
        copyWrong(due);
        load(due);
        judge(due);
        judgeLate(due);
        due.end();
    }

    private static RollTown with(int s, int bits, int... numbers) {
        RollTown x = new RollTown();
        put(x, s, bits, numbers);
        return x;
    }

    private static void put(RollTown x, int s, int bits, int... numbers) {
        x.sheet(s, bits, numbers.length);
        for (int i = 0; i < numbers.length; i++) {
            x.write(s, i, numbers[i]);
        }
    }

    /** The numbers of a sheet, seen through the falls: all of them are to be -9 to 9. */
    private static String numbers(RollTown x, int s, int n) {
        StringBuilder b = new StringBuilder();
        x.load(s, 0);
        for (int c = 0; c < n; c++) {
            b.append(x.fall(c, 2)).append(' ');
        }
        return b.toString();
    }

    private static void hold(Due due) {
        RollTown x = new RollTown();
        due.is("41: hold(0, 0)", x.hold(0, 0), Due.BEYOND);
        x.thing(3, 10);
        x.thing(0, 10);
        due.is("41: hold(0, 0) of a thing", x.hold(0, 0), 1);
        due.is("41: hold(9, 0)", x.hold(9, 0), 1);
        due.is("41: hold(9, 1)", x.hold(9, 1), 1);
        due.is("41: count(7)", x.count(7), 2);
        due.is("41: hold(10, 0)", x.hold(10, 0), Due.BEYOND);
        due.is("41: hold(-1, 0)", x.hold(-1, 0), Due.BEYOND);
        due.is("41: hold(0, 2)", x.hold(0, 2), Due.BEYOND);
        due.is("41: hold(0, -2)", x.hold(0, -2), Due.BEYOND);
        due.is("41: as(0, 0)", x.as(0, 0), 0);
        due.is("41: as(9, 0)", x.as(9, 0), 1);
        due.is("41: hold(0, -1)", x.hold(0, -1), 1);
        due.is("41: hold(1, -1)", x.hold(1, -1), 1);
        due.is("41: count(7)", x.count(7), 1);
        due.is("41: as(0, 0) of nothing", x.as(0, 0), Due.MISSING);
    }

    private static void as(Due due) {
        RollTown x = new RollTown();
        int[] under = {0b1, 0b11, 0b101, 0b1011, 0b10101, 0b100011, 0b1000001};
        for (int kind = 0; kind < 7; kind++) {
            x.thing(kind, 10);
            x.hold(kind, kind);
            for (int asked = 0; asked < 7; asked++) {
                int want = (under[kind] >> asked & 1) == 1 ? kind : Due.KIND;
                due.is("42: as(" + kind + ", " + asked + ")", x.as(kind, asked), want);
            }
        }
        x.change(3, 0, 4);
        due.is("42: of another KIND now", x.as(3, 2), 3);
        due.is("42: as(7, 0)", x.as(7, 0), Due.MISSING);
        due.is("42: as(7, 7)", x.as(7, 7), Due.BEYOND);
        due.is("42: as(0, -1)", x.as(0, -1), Due.BEYOND);
        due.is("42: as(10, 0)", x.as(10, 0), Due.BEYOND);
        due.is("42: as(-1, 0)", x.as(-1, 0), Due.BEYOND);
        due.is("42: status(2)", x.status(2), 33);
    }

    private static void sheet(Due due) {
        RollTown x = new RollTown();
        due.is("43: sheet(0, 8, 40)", x.sheet(0, 8, 40), 40);
        due.is("43: sheet(3, 32, 0)", x.sheet(3, 32, 0), 0);
        due.is("43: a sheet of none isn't MISSING", x.write(3, 0, 0), Due.BEYOND);
        due.is("43: sheet(4, 8, 1)", x.sheet(4, 8, 1), Due.BEYOND);
        due.is("43: sheet(-1, 8, 1)", x.sheet(-1, 8, 1), Due.BEYOND);
        due.is("43: sheet(4, 8, -1)", x.sheet(4, 8, -1), Due.BEYOND);
        due.is("43: sheet(0, 9, -1)", x.sheet(0, 9, -1), Due.BEYOND);
        due.is("43: sheet(0, -8, 1)", x.sheet(0, -8, 1), Due.BEYOND);
        due.is("43: sheet(0, 8, -1)", x.sheet(0, 8, -1), Due.SIZE);
        due.is("43: sheet(0, 0, -1)", x.sheet(0, 0, -1), Due.SIZE);
        due.is("43: sheet(0, 16, least)", x.sheet(0, 16, Integer.MIN_VALUE), Due.SIZE);
        due.is("43: sheet(0, 16, 41)", x.sheet(0, 16, 41), Due.BEYOND);
        due.is("43: sheet(0, 16, most)", x.sheet(0, 16, Integer.MAX_VALUE), Due.BEYOND);
        due.is("43: status(6)", x.status(6), 3);
        due.is("43: it has its 40 still", x.write(0, 39, 1), 1);
        due.is("43: sheet(0, 0, 7)", x.sheet(0, 0, 7), 0);
        due.is("43: MISSING", x.write(0, 0, 0), Due.MISSING);
        put(x, 1, 8, 3, 4, 5);
        due.is("43: anew", x.sheet(1, 8, 2), 2);
        x.sheet(1, 8, 3);
        due.same("43: all 0", numbers(x, 1, 3), "0 0 0 ");
    }

    private static void write(Due due) {
        RollTown x = with(0, 8, 0, 0);
        due.is("44: write(0, 0, 257)", x.write(0, 0, 257), 1);
        due.is("44: write(0, 1, 255)", x.write(0, 1, 255), 1);
        due.same("44: its lowest 8 bits", numbers(x, 0, 2), "1 -1 ");
        put(x, 1, 16, 0x10005, 0xFFFC, 0x105);
        due.is("44: 261 of 16 bits is no FALL", x.load(1, 0), 2);
        due.same("44: its lowest 16 bits", numbers(x, 1, 3), "5 -4 2 ");
        put(x, 2, 32, -3, 0x10005);
        due.is("44: 65541 of 32 bits is no FALL", x.load(2, 0), 1);
        due.is("44: write(4, 0, 0)", x.write(4, 0, 0), Due.BEYOND);
        due.is("44: write(-1, 0, 0)", x.write(-1, 0, 0), Due.BEYOND);
        due.is("44: write(3, -1, 0)", x.write(3, -1, 0), Due.MISSING);
        due.is("44: write(0, 2, 0)", x.write(0, 2, 0), Due.BEYOND);
        due.is("44: write(0, -1, 0)", x.write(0, -1, 0), Due.BEYOND);
    }

    private static void copy(Due due) {
        RollTown x = with(0, 8, 1, 2, 3, 4, 5);
        put(x, 1, 8, 0, 0, 0);
        due.is("45: copy(0, 1, 1, 0, 3)", x.copy(0, 1, 1, 0, 3), 3);
        due.same("45: they came", numbers(x, 1, 3), "2 3 4 ");
        due.same("45: they stay", numbers(x, 0, 5), "1 2 3 4 5 ");
        due.is("45: onto itself, down", x.copy(0, 0, 0, 1, 4), 4);
        due.same("45: as they all were", numbers(x, 0, 5), "1 1 2 3 4 ");
        due.is("45: onto itself, up", x.copy(0, 2, 0, 0, 3), 3);
        due.same("45: as they all were", numbers(x, 0, 5), "2 3 4 3 4 ");
        due.is("45: none", x.copy(0, 5, 1, 3, 0), 0);
        due.is("45: all", x.copy(1, 0, 0, 2, 3), 3);
        due.same("45: they came", numbers(x, 0, 5), "2 3 2 3 4 ");
    }

    private static void copyWrong(Due due) {
        RollTown x = with(0, 8, 1, 2, 3, 4, 5);
        put(x, 1, 8, 0, 0, 0);
        put(x, 2, 16, 0, 0, 0);
        int[][] beyond = {
            {4, 0, 0, 0, 1}, {-1, 0, 0, 0, 1}, {0, 0, 4, 0, 1}, {0, 0, -1, 0, 1}, {3, 0, 4, 0, 1},
            {0, -1, 1, 0, 1}, {0, 0, 1, -1, 1}, {0, 0, 1, 0, -1}, {0, 0, 1, 0, 4}, {1, 0, 0, 0, 4}, {0, 5, 1, 0, 1},
            {0, 6, 1, 0, 0}, {0, 0, 1, 3, 1}, {0, 0, 1, 4, 0}, {0, Integer.MAX_VALUE, 1, 0, 1},
            {0, 1, 1, 1, Integer.MAX_VALUE}, {0, 0, 1, Integer.MAX_VALUE, Integer.MAX_VALUE},
            {0, Integer.MIN_VALUE, 1, Integer.MIN_VALUE, Integer.MIN_VALUE}};
        for (int[] a : beyond) {
            due.is("45: copy " + java.util.Arrays.toString(a), x.copy(a[0], a[1], a[2], a[3], a[4]), Due.BEYOND);
        }
        due.is("45: from a MISSING one", x.copy(3, 0, 0, 0, -1), Due.MISSING);
        due.is("45: to a MISSING one", x.copy(0, 0, 3, 0, 1), Due.MISSING);
        due.is("45: of other bits", x.copy(0, 0, 2, 0, 1), Due.KIND);
        due.is("45: of other bits, too many", x.copy(0, 0, 2, 0, 99), Due.KIND);
        due.same("45: nothing came", numbers(x, 0, 5) + numbers(x, 1, 3) + numbers(x, 2, 3), "1 2 3 4 5 0 0 0 0 0 0 ");
    }

    private static void load(Due due) {
        RollTown x = with(0, 8, 9, -9, 0, 10, 3);
        due.is("46: up to one that is no FALL", x.load(0, 4), 3);
        int[] want = {2, 9, -9, 0, 2, 2};
        for (int i = 0; i < want.length; i++) {
            due.is("46: fall of " + (3 + i), x.fall(3 + i, 2), want[i]);
        }
        due.is("46: up to THE FOOT", x.load(0, 29), 2);
        due.is("46: fall of THE FOOT", x.fall(30, 2), -9);
        x.write(0, 0, -10);
        due.is("46: none", x.load(0, 0), 0);
        due.is("46: load(0, 31)", x.load(0, 31), Due.BEYOND);
        due.is("46: load(0, -1)", x.load(0, -1), Due.BEYOND);
        due.is("46: load(4, 0)", x.load(4, 0), Due.BEYOND);
        due.is("46: load(-1, 31)", x.load(-1, 31), Due.BEYOND);
        due.is("46: load(1, 31)", x.load(1, 31), Due.MISSING);
        x.sheet(1, 16, 40);
        due.is("46: a long sheet", x.load(1, 0), 31);
        due.is("46: fall(30, 1)", x.fall(30, 1), 0);
        x.sheet(1, 16, 0);
        due.is("46: an empty sheet", x.load(1, 0), 0);
    }

    private static void judge(Due due) {
        RollTown x = with(0, 16, 1, 3, 5, 8, 12);
        due.is("47: judge(0, 0) of nobody", x.judge(0, 0), Due.BEYOND);
        x.thing(0, 10);
        x.thing(0, 10);
        x.go(0);
        due.is("47: all are", x.judge(0, 0), 0);
        due.is("47: minute", x.count(0), 0);
        due.is("47: the other one stays", x.judge(0, 1), 1);
        x.write(0, 4, 13);
        due.is("47: the last isn't", x.judge(0, 0), 5);
        x.write(0, 2, -1);
        due.is("47: nor one ahead of it", x.judge(0, 0), 3);
        x.put(1, 1);
        x.sheet(0, 8, 5);
        for (int i = 0; i < 5; i++) {
            x.write(0, i, 1);
        }
        due.is("47: both meet on 1 and stay", x.judge(0, 0), 0);
        due.is("47: judge(4, 0)", x.judge(4, 0), Due.BEYOND);
        due.is("47: judge(-1, 0)", x.judge(-1, 0), Due.BEYOND);
        due.is("47: judge(1, 0)", x.judge(1, 0), Due.MISSING);
        due.is("47: judge(1, 9)", x.judge(1, 9), Due.MISSING);
        due.is("47: judge(0, 2)", x.judge(0, 2), Due.BEYOND);
        due.is("47: judge(0, -1)", x.judge(0, -1), Due.BEYOND);
        x.sheet(2, 32, 0);
        due.is("47: an empty sheet", x.judge(2, 0), 0);
    }

    private static void judgeLate(Due due) {
        RollTown x = with(0, 8, 0, 0);
        x.thing(0, 10);
        for (int i = 0; i < 83; i++) {
            x.minutes(120);
        }
        x.minutes(37);
        due.is("47: in MINUTE 9997", x.judge(0, 0), 0);
        x.minutes(1);
        due.is("47: in MINUTE 9998", x.judge(0, 0), Due.STATE);
        x.write(0, 0, 5);
        due.is("47: STATE, though the first isn't", x.judge(0, 0), Due.STATE);
        due.is("47: BEYOND first", x.judge(0, 1), Due.BEYOND);
    }
}
