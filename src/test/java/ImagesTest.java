/** Promises 48 to 52: images, counts, status. */
public final class ImagesTest {
    public static void main(String[] args) {
        Due due = new Due("Images");
        imageAndUndo(due);
        damageIsKept(due);
        numbersAreGivenAgain(due);
        whatIsNotKept(due);
        spotsAreKept(due);
        tear(due);
        count(due);
        status(due);
        due.end();
    }

    private static void imageAndUndo(Due due) {
        RollTown x = new RollTown();
        due.is("49: nothing is kept", x.undo(), Due.NONE);
        x.thing(4, 33);
        x.thing(1, 5);
        x.change(0, 3, 2);
        x.put(1, 1);
        x.go(0);
        x.minutes(1);
        x.seed(99);
        x.ground(7, 2);
        x.gate(0, 9);
        String before = Due.view(x);
        due.is("48: image", x.image(), 1);
        x.minutes(3);
        x.ground(7, 0);
        x.fall(7, -3);
        x.gate(0, 1);
        x.gate(1, 2);
        x.thing(6, 44);
        x.change(0, 0, 3);
        x.change(0, 1, 3);
        x.change(0, 2, 3);
        x.change(0, 3, 3);
        x.put(0, 12);
        x.seed(5);
        x.hold(4, 2);
        due.is("49: undo", x.undo(), 1);
        due.same("49: all is as kept", Due.view(x), before);
        due.is("49: last of SHUT", x.gate(1, 14), 14);
        x.minutes(5);
        x.change(0, 1, 50);
        due.is("49: undo again", x.undo(), 1);
        due.same("49: it stays", Due.view(x), before);
        due.is("49: a new one is as new", x.thing(0, 10), 2);
        due.is("49: its CELL", x.of(2, 4), 0);
        x.minutes(2);
        x.image();
        x.minutes(2);
        due.is("49: what was kept latest", x.undo(), 3);
        due.is("49: with its thing", x.count(1), 3);
    }

    private static void damageIsKept(Due due) {
        RollTown x = new RollTown();
        x.thing(0, 10);
        x.thing(0, 10);
        x.put(1, 1);
        x.image();
        x.go(0);
        x.minutes(1);
        due.is("48: damage", x.count(2), 2);
        x.undo();
        due.is("49: damage is undone", x.count(2), 0);
        x.go(0);
        x.minutes(1);
        x.image();
        x.undo();
        due.is("49: damage is kept", x.of(1, 7), 1);
    }

    private static void numbersAreGivenAgain(Due due) {
        RollTown x = new RollTown();
        x.image();
        x.thing(3, 50);
        x.thing(3, 50);
        for (int what = 1; what < 4; what++) {
            x.change(0, what, 7);
        }
        x.put(1, 2);
        x.go(0);
        x.minutes(1);
        due.is("49: damage ahead of it", x.count(2), 2);
        x.go(0);
        x.undo();
        due.is("49: none is there", x.count(1), 0);
        due.is("49: a thing anew", x.thing(2, 20), 0);
        int[] want = {2, 20, 4, 0, 0, 0, 0, 0, 40};
        for (int what = 0; what < 9; what++) {
            due.is("49: of(0, " + what + ")", x.of(0, what), want[what]);
        }
    }

    private static void whatIsNotKept(Due due) {
        RollTown x = new RollTown();
        x.feed(1, 2);
        x.sheet(0, 8, 3);
        x.write(0, 0, 7);
        x.image();
        x.feed(1, 2);
        x.write(0, 0, 5);
        x.sheet(1, 8, 3);
        x.go(0);
        x.undo();
        due.is("48: THE TAPE is not kept", x.count(5), 4);
        due.is("48: SHEETS are not kept", x.load(0, 0), 3);
        due.is("48: nor what is in them", x.fall(0, 2), 5);
        due.is("48: nor a new one", x.write(1, 2, 0), 1);
        due.is("52: undo takes no finding back", x.status(-1), 1);
    }

    private static void spotsAreKept(Due due) {
        RollTown x = new RollTown();
        x.thing(0, 10);
        x.hold(0, 0);
        x.image();
        x.thing(1, 10);
        x.hold(0, 1);
        x.hold(1, 1);
        x.undo();
        due.is("48: SPOTS are kept", x.as(0, 0), 0);
        due.is("48: that one was empty", x.as(1, 0), Due.MISSING);
        due.is("48: count(7)", x.count(7), 1);
    }

    private static void tear(Due due) {
        RollTown x = new RollTown();
        due.is("50: nothing", x.tear(), 0);
        x.image();
        x.image();
        due.is("50: something", x.tear(), 1);
        due.is("50: nothing any more", x.tear(), 0);
        due.is("50: undo", x.undo(), Due.NONE);
        x.image();
        due.is("50: undo of a new one", x.undo(), 0);
    }

    private static void count(Due due) {
        RollTown x = new RollTown();
        x.thing(0, 10);
        x.thing(0, 99);
        x.put(1, 1);
        x.go(0);
        x.minutes(4);
        x.ground(3, 1);
        x.ground(4, 3);
        x.feed(0, 3);
        x.seed(-7);
        x.hold(5, 1);
        x.hold(6, 1);
        int[] want = {4, 2, 2, 109, 29, 3, -7, 2};
        for (int what = 0; what < 8; what++) {
            due.is("51: count(" + what + ")", x.count(what), want[what]);
        }
        due.is("51: count(8)", x.count(8), Due.BEYOND);
        due.is("51: count(-1)", x.count(-1), Due.BEYOND);
        due.is("51: status(0)", x.status(0), 2);
    }

    private static void status(Due due) {
        RollTown x = new RollTown();
        x.fall(31, 0);
        for (int i = 0; i < 12; i++) {
            x.thing(0, 10);
        }
        x.hold(0, 0);
        for (int i = 0; i < 3; i++) {
            x.as(0, 1);
        }
        for (int i = 0; i < 4; i++) {
            x.undo();
        }
        x.go(0);
        for (int i = 0; i < 5; i++) {
            x.go(0);
        }
        for (int i = 0; i < 6; i++) {
            x.as(1, 1);
        }
        for (int i = 0; i < 7; i++) {
            x.sheet(0, 8, -1);
        }
        for (int which = 0; which < 7; which++) {
            due.is("52: status(" + which + ")", x.status(which), which + 1);
        }
        due.is("52: status(-1)", x.status(-1), 28);
        due.is("52: status(7)", x.status(7), Due.BEYOND);
        due.is("52: status(-2)", x.status(-2), Due.BEYOND);
        due.is("52: counted from then on", x.status(0), 3);
        due.is("52: and in all", x.status(-1), 30);
        x.image();
        x.go(0);
        x.undo();
        due.is("52: undo takes none back", x.status(4), 6);
        x.tear();
        due.is("52: tear neither", x.status(-1), 31);
    }
}
