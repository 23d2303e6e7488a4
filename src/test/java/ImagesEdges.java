/** Promises 48 to 52, sentence by sentence. */
final class ImagesEdges {
    private ImagesEdges() {
    }

    static void all(Edges e) {
        imageKeeps(e);
        imageLeavesOut(e);
        undoBecomes(e);
        undoStays(e);
        undoOfTheLatest(e);
        undoNone(e);
        tearTells(e);
        countTells(e);
        countBeyond(e);
        statusTells(e);
        statusIsNotUndone(e);
        statusBeyond(e);
        aLongDay(e);
    }

    private static void imageKeeps(Edges e) {
        e.says(48, "All but THE TAPE and SHEETS is kept: 1.");
        e.town("thing(4, 33); thing(1, 5); thing(0, 7); change(0, 3, 2); put(1, 1); put(2, 30); wheel(1); go(0); minutes(1)");
        e.play("seed(99); ground(7, 2); fall(8, -3); gate(0, 9); gate(1, 8); hold(2, 1)");
        e.due("image()", 1);
        e.play("minutes(3); ground(7, 0); fall(8, 2); gate(0, 1); gate(1, 2); thing(6, 44); change(0, 0, 3); change(0, 1, 3)");
        e.play("change(0, 2, 3); change(0, 3, 3); put(0, 12); put(1, 11); go(1); minutes(1); put(2, 5); seed(5); hold(2, 3); hold(4, 0)");
        e.due("undo()", 1);
        int[][] things = {{4, 33, 4, 2, 1, 0, 0, 1, 34}, {1, 5, 4, 0, 1, 0, 0, 1, 30}, {0, 7, 4, 0, 30, 0, 3, 0, 40}};
        for (int i = 0; i < things.length; i++) {
            for (int what = 0; what < 9; what++) {
                e.tells("of(" + i + ", " + what + ")", things[i][what]);
            }
        }
        int[] counts = {1, 3, 2, 45, 30, 0, 99, 1};
        for (int what = 0; what < 8; what++) {
            e.tells("count(" + what + ")", counts[what]);
        }
        e.tells("as(2, 0)", 1);
        e.missing("as(4, 0)");
        e.due("ground(7, 0)", 2);
        e.due("fall(8, 0)", -3);
        e.due("gate(0, 0)", 9);
        e.due("gate(1, 0)", 8);
    }

    private static void imageLeavesOut(Edges e) {
        e.says(48, "All but THE TAPE and SHEETS");
        e.play("sheet(0, 8, 2); write(0, 0, 7); sheet(1, 8, 1)");
        e.feed("san");
        e.due("image()", 1);
        e.feed("d 3");
        e.play("write(0, 0, 5); write(0, 1, 6); sheet(1, 0, 0); sheet(2, 16, 3)");
        e.due("undo()", 0);
        e.tells("count(5)", 6);
        e.due("text()", 1);
        e.due("ground(3, 0)", 1);
        e.missing("write(1, 0, 0)");
        e.due("write(2, 2, 0)", 1);
        e.due("load(0, 0)", 2);
        e.due("fall(0, 2)", 5);
        e.due("fall(1, 2)", 6);
    }

    private static void undoBecomes(Edges e) {
        e.says(49, "It becomes what was kept latest");
        e.town("image(); thing(0, 10); minutes(7); image(); thing(0, 10); minutes(9)");
        e.due("undo()", 7);
        e.tells("count(1)", 1);
        e.tells("count(0)", 7);
        e.due("thing(3, 20)", 1);
        e.tells("of(1, 0)", 3);
        e.town("image(); thing(2, 50); thing(2, 50); change(0, 2, 7); change(0, 3, 7); put(1, 2); put(0, 1); go(0)");
        e.due("minutes(1)", 2);
        e.play("go(0)");
        e.tells("are(1)", 1);
        e.due("undo()", 0);
        e.due("thing(1, 20)", 0);
        int[] asNew = {1, 20, 4, 0, 0, 0, 0, 0, 30};
        for (int what = 0; what < 9; what++) {
            e.tells("of(0, " + what + ")", asNew[what]);
        }
    }

    private static void undoStays(Edges e) {
        e.says(49, "(which stays):");
        e.town("thing(0, 10); minutes(3); image(); go(0); minutes(5); change(0, 1, 50)");
        for (int i = 0; i < 3; i++) {
            e.due("undo()", 3);
            e.tells("of(0, 1)", 10);
            e.tells("of(0, 6)", 0);
            e.play("go(0); minutes(2); change(0, 1, 60); seed(8)");
        }
        e.due("undo()", 3);
        e.tells("undo()", 3);
        e.due("tear()", 1);
    }

    private static void undoOfTheLatest(Edges e) {
        e.says(49, "MINUTE.");
        e.town("image(); minutes(1)");
        e.due("undo()", 0);
        e.minute(9999);
        e.play("image()");
        e.due("undo()", 9999);
    }

    private static void undoNone(Edges e) {
        e.says(49, "NONE: nothing is kept.");
        e.none("undo()");
        e.play("minutes(1); image(); tear(); minutes(1)");
        e.none("undo()");
    }

    private static void tearTells(Edges e) {
        e.says(50, "Nothing is kept: 1 if something was, else 0.");
        e.due("tear()", 0);
        e.play("image(); image()");
        e.due("tear()", 1);
        e.due("tear()", 0);
        e.none("undo()");
        e.play("minutes(2); image(); minutes(2)");
        e.due("undo()", 2);
        e.due("tear()", 1);
        e.tells("count(0)", 2);
    }

    private static void countTells(Edges e) {
        e.says(51, "0 MINUTE, 1 THINGS, 2 DAMAGE of all, 3 WEIGHT of all, 4 CELLS of GROUND 0, 5 bytes of THE TAPE, 6 z, 7 SPOTS that hold something.");
        e.town("thing(0, 10); thing(0, 99); thing(0, 1); put(1, 1); go(0); minutes(4); ground(3, 1); ground(4, 3); feed(0, 3)");
        e.play("seed(-7); hold(5, 1); hold(6, 1); put(2, 30); wheel(1)");
        int[] want = {4, 3, 2, 110, 29, 3, -7, 2};
        for (int what = 0; what < 8; what++) {
            e.tells("count(" + what + ")", want[what]);
        }
        e.town("thing(0, 99);".repeat(10));
        e.tells("count(3)", 990);
        e.reads("sand 0 to 30", 1);
        e.tells("count(4)", 0);
    }

    private static void countBeyond(Edges e) {
        e.says(51, "BEYOND: another what.");
        e.beyond("count(-1)", "count(8)", "count(least)", "count(most)");
    }

    private static void statusTells(Edges e) {
        e.says(52, "How many acts answered a finding ever");
        e.due("fall(31, 0)", Due.BEYOND);
        e.tells("status(0)", 1);
        e.due("undo()", Due.NONE);
        e.due("undo()", Due.NONE);
        e.tells("status(3)", 2);
        e.tells("status(-1)", 3);
        e.says(52, "which -1: all, 0 to 6: BEYOND to SIZE.");
        e.due("text()", -1);
        e.due("seed(-1000001)", 1);
        e.due("seed(1)", -1000001);
        for (int which = -1; which < 7; which++) {
            e.tells("status(" + which + ")", 0);
        }
        e.play("thing(0, 10);".repeat(10) + "hold(0, 0); go(0)");
        String[] calls = {"of(10, 0)", "thing(0, 10)", "as(0, 1)", "worst()", "go(0)", "as(1, 0)", "sheet(0, 0, -1)"};
        for (int which = 0; which < 7; which++) {
            for (int times = 0; times <= which; times++) {
                e.due(calls[which], Due.BEYOND - which);
            }
            e.tells("status(" + which + ")", which + 1);
        }
        e.tells("status(-1)", 28);
    }

    private static void statusIsNotUndone(Edges e) {
        e.says(52, "(undo() takes none back):");
        e.town("image()");
        e.due("go(0)", Due.BEYOND);
        e.due("undo()", 0);
        e.tells("status(0)", 1);
        e.due("tear()", 1);
        e.tells("status(-1)", 1);
        e.due("undo()", Due.NONE);
        e.tells("status(-1)", 2);
    }

    private static void statusBeyond(Edges e) {
        e.says(52, "BEYOND (counted from then on): another one.");
        e.beyond("status(-2)", "status(7)", "status(least)", "status(most)");
        e.due("status(7)", Due.BEYOND);
        e.tells("status(0)", 1);
        e.tells("status(-1)", 1);
        e.due("status(-2)", Due.BEYOND);
        e.tells("status(0)", 2);
    }

    /** An object lasts for 512 calls: all of them are counted. */
    private static void aLongDay(Edges e) {
        e.says(52, "How many acts answered a finding ever");
        for (int i = 0; i < 510; i++) {
            e.due("go(0)", Due.BEYOND);
        }
        e.due("status(0)", 510);
        e.due("status(-1)", 510);
    }
}
