/** Promises 38 to 40: the tape, lanes from texts. */
public final class TextsTest {
    public static void main(String[] args) {
        Due due = new Due("Texts");
        feed(due);
        wipe(due);
        grounds(due);
        falls(due);
        shut(due);
        things(due);
        tokens(due);
        fullTapes(due);
        faults(due);
        faultsChangeNothing(due);
        elevenThings(due);
        due.end();
    }

    private static void feed(Due due) {
        RollTown x = new RollTown();
        due.is("38: feed(0, 0)", x.feed(0, 0), Due.BEYOND);
        due.is("38: feed(0, 5)", x.feed(0, 5), Due.BEYOND);
        due.is("38: the highest first", x.feed(0x73616e64, 4), 4);
        due.is("38: the lowest two", x.feed(0x7fff2033, 2), 6);
        due.is("38: count(5)", x.count(5), 6);
        due.is("40: sand 3", x.text(), 1);
        due.is("40: it is so", x.ground(3, 0), 1);
        for (int i = 1; i <= 29; i++) {
            due.is("38: feed " + i, x.feed(0x20202020, 4), 4 * i);
        }
        due.is("38: three more", x.feed(0x203333, 3), 119);
        due.is("38: too many by one", x.feed(0x20202020, 2), Due.FULL);
        due.is("38: BEYOND first", x.feed(0x20202020, 5), Due.BEYOND);
        due.is("38: count(5)", x.count(5), 119);
        due.is("38: the last", x.feed(0x20, 1), 120);
        due.is("38: full", x.feed(0x20, 1), Due.FULL);
        due.is("38: status(1)", x.status(1), 2);
        due.is("40: a NUMBER can't begin it", x.text(), -1 - 117);
        due.is("40: the tape is empty", x.count(5), 0);
    }

    private static void wipe(Due due) {
        RollTown x = new RollTown();
        x.feed(0x73616e64, 4);
        x.feed(0x20, 1);
        due.is("39: wipe", x.wipe(), 5);
        due.is("39: wipe again", x.wipe(), 0);
        due.is("40: of an empty tape", x.text(), -1);
        due.is("40: it is no finding", x.status(-1), 0);
    }

    private static void grounds(Due due) {
        RollTown x = new RollTown();
        due.is("40: five grounds", Due.text(x, "gate 0 to 30;bend 4;straw 5 to 6;sand 7 to 7;stone 0 to 3"), 5);
        int[] want = {0, 0, 0, 0, 3, 2, 2, 1, 4};
        for (int c = 0; c < 31; c++) {
            due.is("40: ground of " + c, x.ground(c, 0), want[Math.min(c, 8)]);
        }
    }

    private static void falls(Due due) {
        RollTown x = new RollTown();
        due.is("40: falls", Due.text(x, "fall 1 to 3 by 9;fall 2 by -9;fall 30 by - 4;fall 0 by -0"), 4);
        int[] cells = {0, 1, 2, 3, 4, 29, 30};
        int[] want = {0, 9, -9, 9, 2, 2, -4};
        for (int i = 0; i < cells.length; i++) {
            due.is("40: fall of " + cells[i], x.fall(cells[i], 1), want[i]);
        }
    }

    private static void shut(Due due) {
        RollTown x = new RollTown();
        due.is("40: shut", Due.text(x, "shut 59 to 3"), 1);
        due.is("40: first", x.gate(0, 0), 59);
        due.is("40: last", x.gate(1, 0), 3);
        due.is("40: shut 0 to 0", Due.text(x, "shut 0 to 0;shut 5 to 5"), 2);
        due.is("40: first", x.gate(0, 0), 5);
        due.is("40: shut 59 to 59", Due.text(x, "shut 59 to 59"), 1);
        due.is("40: last", x.gate(1, 0), 59);
    }

    private static void things(Due due) {
        RollTown x = new RollTown();
        due.is("40: seven kinds", Due.text(x, "thing;cheese weight 99;drum rolls 9;rock lean 9"), 4);
        due.is("40: and more", Due.text(x, "bale weight 1 rolls 1 lean 0;ring rolls 2 lean 3;box weight 7 lean 8"), 3);
        int[][] want = {
            {0, 10, 4, 0}, {1, 99, 4, 0}, {2, 10, 9, 0}, {3, 10, 4, 9}, {4, 1, 1, 0}, {5, 10, 2, 3}, {6, 7, 4, 8}};
        for (int i = 0; i < 7; i++) {
            for (int what = 0; what < 4; what++) {
                due.is("40: of(" + i + ", " + what + ")", x.of(i, what), want[i][what]);
            }
            for (int what = 4; what < 8; what++) {
                due.is("40: of(" + i + ", " + what + ")", x.of(i, what), 0);
            }
        }
    }

    private static void tokens(Due due) {
        RollTown x = new RollTown();
        due.is("40: no blanks", Due.text(x, "sand3to5;fall3by-2;shut5to6;drum weight40rolls3lean2"), 4);
        due.is("40: ground", x.ground(5, 0), 1);
        due.is("40: fall", x.fall(3, 0), -2);
        due.is("40: lean", x.of(0, 3), 2);
        due.is("40: blanks all over", Due.text(x, "   sand   8  ;  thing   "), 2);
        due.is("40: ground of 8", x.ground(8, 0), 1);
        due.is("40: naughts ahead", Due.text(x, "sand 0000000009;fall 007 by 0003"), 2);
        due.is("40: ground of 9", x.ground(9, 0), 1);
        due.is("40: fall of 7", x.fall(7, 0), 3);
        due.is("40: a longer text", Due.text(x, "sand 15"), 1);
        due.is("40: a shorter one behind it", Due.text(x, "sand 1"), 1);
        due.is("40: ground of 1", x.ground(1, 0), 1);
        due.is("40: a longer one with a fault", Due.text(x, "boxes"), -1);
        due.is("40: a shorter one without", Due.text(x, "box"), 1);
        due.is("40: a longer one with blanks", Due.text(x, "ring    "), 1);
        due.is("40: a shorter one that ends too early", Due.text(x, "sand"), -1 - 4);
    }

    private static void fullTapes(Due due) {
        fault(due, ";".repeat(120), 0);
        fault(due, "-".repeat(120), 0);
        fault(due, " ".repeat(120), 120);
        fault(due, "a".repeat(120), 0);
        fault(due, "sand3;".repeat(20), 120);
        fault(due, "sand " + "9".repeat(115), 5);
        RollTown x = new RollTown();
        due.is("40: 120 bytes", Due.text(x, "sand3;".repeat(19) + "sand30"), 20);
        due.is("40: ground of THE FOOT", x.ground(30, 0), 1);
        due.is("40: many naughts", Due.text(x, "sand " + "0".repeat(114) + "9"), 1);
        due.is("40: ground of 9", x.ground(9, 0), 1);
    }

    /** Each text with the place of its fault. */
    private static void faults(Due due) {
        fault(due, "", 0);
        fault(due, "    ", 4);
        fault(due, "sand", 4);
        fault(due, "sand ", 5);
        fault(due, "sand 31", 5);
        fault(due, "sand 99999999999999999999", 5);
        fault(due, "sand 4294967296", 5);
        fault(due, "sand x", 5);
        fault(due, "sand -3", 5);
        fault(due, "sand 3 to", 9);
        fault(due, "sand 3 to 2", 10);
        fault(due, "sand 3 to 31", 10);
        fault(due, "sand 3 by 2", 7);
        fault(due, "sand 3 4", 7);
        fault(due, "sand 3;", 7);
        fault(due, "sand 3;  ", 9);
        fault(due, "sand 3;;sand 4", 7);
        fault(due, ";sand 3", 0);
        fault(due, "sand 3 sand 4", 7);
        fault(due, "sand 3$", 6);
        fault(due, "$", 0);
        fault(due, "Sand 3", 0);
        fault(due, "sAnd 3", 0);
        fault(due, "sand\t3", 4);
        fault(due, "sand 3\n", 6);
        fault(due, "sand 3" + (char) 0, 6);
        fault(due, "sand 3 " + (char) 200, 7);
        fault(due, "sands 3", 0);
        fault(due, "san 3", 0);
        fault(due, "hand 3", 0);
        fault(due, "sane 3", 0);
        fault(due, "ting", 0);
        fault(due, "wing", 0);
        fault(due, "sandto 3", 0);
        fault(due, "roll 3", 0);
        fault(due, "3", 0);
        fault(due, "fall 3", 6);
        fault(due, "fall 3 by", 9);
        fault(due, "fall 3 by -", 11);
        fault(due, "fall 3 by - -3", 12);
        fault(due, "fall 3 by 10", 10);
        fault(due, "fall 3 by -10", 11);
        fault(due, "fall 3 to by 3", 10);
        fault(due, "fall 3 to 2 by 3", 10);
        fault(due, "fall 31 by 3", 5);
        fault(due, "fall 3 5", 7);
        fault(due, "shut 60 to 3", 5);
        fault(due, "shut 3", 6);
        fault(due, "shut 3 3", 7);
        fault(due, "shut 3 to 60", 10);
        fault(due, "shut 3 to", 9);
        fault(due, "box weight 0", 11);
        fault(due, "box weight 100", 11);
        fault(due, "box weight", 10);
        fault(due, "box rolls 0", 10);
        fault(due, "box rolls 10", 10);
        fault(due, "box lean 10", 9);
        fault(due, "box lean -1", 9);
        fault(due, "box lean 3 rolls 3", 11);
        fault(due, "box rolls 3 weight 3", 12);
        fault(due, "box weight 3 weight 4", 13);
        fault(due, "box 3", 4);
        fault(due, "thing;boxes", 6);
    }

    private static void fault(Due due, String text, int place) {
        RollTown x = new RollTown();
        due.is("40: text '" + text + "'", Due.text(x, text), -1 - place);
        due.is("40: no finding of '" + text + "'", x.status(-1), 0);
        due.is("40: tape behind '" + text + "'", x.count(5), 0);
    }

    private static void faultsChangeNothing(Due due) {
        RollTown x = new RollTown();
        x.thing(0, 10);
        x.go(0);
        x.minutes(1);
        x.hold(3, 0);
        String before = Due.view(x);
        due.is("40: a fault at the end", Due.text(x, "sand 1 to 9;fall 2 to 9 by 1;shut 3 to 4;drum weight 4;x"), -1 - 55);
        due.same("40: what it leaves", Due.view(x), before);
        due.is("40: a new one has the next number", x.thing(1, 7), 1);
        due.is("40: it is as new", x.of(1, 1), 7);
        due.is("40: one ROLLING stays so", Due.text(x, "sand 30"), 1);
        due.is("40: speed", x.of(0, 5), 16);
    }

    private static void elevenThings(Due due) {
        RollTown x = new RollTown();
        due.is("40: eleven", Due.text(x, "ring;ring;ring;ring;ring;ring;ring;ring;ring;ring;ring"), -1 - 50);
        due.is("40: none came", x.count(1), 0);
        due.is("40: ten", Due.text(x, "ring;ring;ring;ring;ring;ring;ring;ring;ring;ring"), 10);
        due.is("40: ten came", x.count(1), 10);
        due.is("40: one more", Due.text(x, "sand 3; box"), -1 - 8);
        due.is("40: no sand came", x.count(4), 31);
        due.is("40: nor does a wrong WORD come ahead", Due.text(x, "box wight 3"), -1);
    }
}
