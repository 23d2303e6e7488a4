/** SPOTS and SHEETS of the Terms, and promises 41 to 47, sentence by sentence. */
final class SheetsEdges {
    private SheetsEdges() {
    }

    static void all(Edges e) {
        spots(e);
        sheets(e);
        holdHolds(e);
        holdBeyond(e);
        asTells(e);
        asBeyond(e);
        asMissing(e);
        asKind(e);
        sheetHas(e);
        sheetIsMissing(e);
        sheetBeyond(e);
        sheetSize(e);
        sheetTooLong(e);
        writeBecomes(e);
        writeRefused(e);
        copyComes(e);
        copyAsTheyAllWere(e);
        copyBeyondSheets(e);
        copyMissing(e);
        copyKind(e);
        copyBeyond(e);
        loadBecomes(e);
        loadEnds(e);
        loadRefused(e);
        judgeTells(e);
        judgeRefused(e);
        judgeState(e);
    }

    private static void spots(Edges e) {
        e.says(0, "SPOTS 0 to 9 hold a THING or nothing (at first).");
        e.town("thing(0, 10)");
        for (int s = 0; s < 10; s++) {
            e.missing("as(" + s + ", 0)");
            e.due("hold(" + s + ", 0)", 1);
            e.tells("as(" + s + ", 0)", 0);
        }
        e.tells("count(7)", 10);
        e.beyond("hold(-1, 0)", "hold(10, 0)", "as(-1, 0)", "as(10, 0)");
    }

    private static void sheets(Edges e) {
        e.says(0, "SHEETS 0 to 3: rows of at most 40 numbers of 8, 16 or 32 bits, or MISSING (at first).");
        int[] bits = {8, 16, 32, 8};
        for (int s = 0; s < 4; s++) {
            e.missing("write(" + s + ", 0, 0)");
            e.due("sheet(" + s + ", " + bits[s] + ", 40)", 40);
            e.due("write(" + s + ", 39, 1)", 1);
            e.beyond("write(" + s + ", 40, 1)", "sheet(" + s + ", " + bits[s] + ", 41)");
        }
        e.beyond("sheet(-1, 8, 1)", "sheet(4, 8, 1)");
    }

    private static void holdHolds(Edges e) {
        e.says(41, "A SPOT holds a THING, or nothing (-1): 1.");
        e.town("thing(0, 10); thing(0, 10); put(1, 30); wheel(2)");
        e.due("hold(0, 1)", 1);
        e.tells("as(0, 0)", 1);
        e.due("hold(9, 1)", 1);
        e.due("hold(9, 0)", 1);
        e.tells("as(9, 0)", 0);
        e.tells("count(7)", 2);
        e.due("hold(9, -1)", 1);
        e.due("hold(9, -1)", 1);
        e.missing("as(9, 0)");
        e.tells("count(7)", 1);
    }

    private static void holdBeyond(Edges e) {
        e.says(41, "BEYOND.");
        e.beyond("hold(0, 0)", "hold(-1, -1)", "hold(10, -1)");
        e.due("hold(0, -1)", 1);
        e.town("thing(0, 10); hold(0, 0)");
        e.beyond("hold(-1, 0)", "hold(10, 0)", "hold(least, 0)", "hold(most, 0)");
        e.beyond("hold(0, 1)", "hold(0, -2)", "hold(0, least)", "hold(0, most)");
    }

    private static void asTells(Edges e) {
        e.says(42, "What a SPOT holds as one of a kind (0 to 6): the number of the THING.");
        e.town("thing(0, 10); thing(3, 10); thing(6, 10); hold(0, 1); hold(9, 2)");
        e.tells("as(0, 0)", 1);
        e.tells("as(0, 1)", 1);
        e.tells("as(0, 3)", 1);
        e.tells("as(9, 0)", 2);
        e.tells("as(9, 6)", 2);
        e.play("change(1, 0, 4)");
        e.tells("as(0, 2)", 1);
        e.kind("as(0, 1)");
    }

    private static void asBeyond(Edges e) {
        e.says(42, "BEYOND.");
        e.town("thing(0, 10); hold(0, 0)");
        e.beyond("as(-1, 0)", "as(10, 0)", "as(least, 0)", "as(most, 0)");
        e.beyond("as(0, -1)", "as(0, 7)", "as(0, least)", "as(0, most)");
    }

    private static void asMissing(Edges e) {
        e.says(42, "MISSING: it holds nothing.");
        e.missing("as(0, 0)", "as(9, 6)");
        e.town("thing(0, 10); hold(0, 0); hold(0, -1)");
        e.missing("as(0, 0)", "as(0, 1)");
    }

    private static void asKind(Edges e) {
        e.says(42, "KIND: it isn't of that kind, nor of one under it.");
        e.town("thing(0, 10); thing(1, 10); thing(2, 10); thing(3, 10); thing(4, 10); thing(5, 10); thing(6, 10)");
        int[] isOf = {0b1, 0b11, 0b101, 0b1011, 0b10101, 0b100011, 0b1000001};
        for (int kind = 0; kind < 7; kind++) {
            e.play("hold(0, " + kind + ")");
            for (int asked = 0; asked < 7; asked++) {
                if ((isOf[kind] >> asked & 1) == 1) {
                    e.tells("as(0, " + asked + ")", kind);
                } else {
                    e.kind("as(0, " + asked + ")");
                }
            }
        }
    }

    /** The numbers of a sheet, seen as FALLS: all are to be -9 to 9. */
    private static void numbers(Edges e, int sheet, int... want) {
        e.due("load(" + sheet + ", 0)", want.length);
        for (int c = 0; c < want.length; c++) {
            e.due("fall(" + c + ", 2)", want[c]);
        }
    }

    private static void row(Edges e, int sheet, int bits, int... numbers) {
        e.play("sheet(" + sheet + ", " + bits + ", " + numbers.length + ")");
        for (int i = 0; i < numbers.length; i++) {
            e.play("write(" + sheet + ", " + i + ", " + numbers[i] + ")");
        }
    }

    private static void sheetHas(Edges e) {
        e.says(43, "A sheet has n numbers, all 0, of 8, 16 or 32 bits;");
        e.due("sheet(0, 8, 3)", 3);
        numbers(e, 0, 0, 0, 0);
        e.due("sheet(3, 32, 0)", 0);
        e.beyond("write(3, 0, 1)");
        numbers(e, 3);
        row(e, 1, 16, 4, 5, 6);
        numbers(e, 1, 4, 5, 6);
        e.due("sheet(1, 16, 2)", 2);
        numbers(e, 1, 0, 0);
        e.due("sheet(1, 16, 3)", 3);
        numbers(e, 1, 0, 0, 0);
        e.due("sheet(2, 8, 40)", 40);
    }

    private static void sheetIsMissing(Edges e) {
        e.says(43, "bits 0: it is MISSING: n (0 if it is MISSING).");
        e.due("sheet(0, 0, 0)", 0);
        e.missing("write(0, 0, 0)");
        row(e, 0, 8, 3, 4);
        e.due("sheet(0, 0, 40)", 0);
        e.missing("write(0, 0, 0)", "load(0, 0)", "copy(0, 0, 0, 0, 0)");
        e.due("sheet(0, 8, 2)", 2);
        numbers(e, 0, 0, 0);
    }

    private static void sheetBeyond(Edges e) {
        e.says(43, "BEYOND: no such sheet, other bits.");
        row(e, 0, 8, 3, 4);
        e.beyond("sheet(-1, 8, 1)", "sheet(4, 8, 1)", "sheet(least, 8, 1)", "sheet(most, 8, 1)");
        e.beyond("sheet(0, 1, 1)", "sheet(0, 7, 1)", "sheet(0, 9, 1)", "sheet(0, 24, 1)", "sheet(0, 64, 1)");
        e.beyond("sheet(0, -8, 1)", "sheet(0, least, 1)", "sheet(0, most, 1)", "sheet(0, 9, -1)", "sheet(4, 0, 0)");
    }

    private static void sheetSize(Edges e) {
        e.says(43, "SIZE: n is below 0 (also with bits 0).");
        row(e, 0, 8, 3, 4);
        e.size("sheet(0, 8, -1)", "sheet(0, 16, least)", "sheet(3, 32, -41)", "sheet(0, 0, -1)", "sheet(0, 0, least)");
    }

    private static void sheetTooLong(Edges e) {
        e.says(43, "BEYOND: n is above 40.");
        row(e, 0, 8, 3, 4);
        e.beyond("sheet(0, 8, 41)", "sheet(0, 16, most)", "sheet(3, 32, 41)", "sheet(0, 0, 41)");
        e.due("sheet(0, 16, 40)", 40);
    }

    private static void writeBecomes(Edges e) {
        e.says(44, "Number i of a sheet becomes v (its lowest bits): 1.");
        e.play("sheet(0, 8, 4)");
        e.due("write(0, 0, 257)", 1);
        e.due("write(0, 1, 255)", 1);
        e.due("write(0, 2, -250)", 1);
        e.due("write(0, 3, 128)", 1);
        e.due("load(0, 0)", 3);
        e.due("fall(0, 2)", 1);
        e.due("fall(1, 2)", -1);
        e.due("fall(2, 2)", 6);
        e.play("sheet(1, 16, 3); write(1, 0, 65536); write(1, 1, 65532); write(1, 2, 256)");
        e.due("load(1, 0)", 2);
        e.due("fall(0, 2)", 0);
        e.due("fall(1, 2)", -4);
        e.play("sheet(2, 32, 40); write(2, 0, -9); write(2, 1, 65536)");
        e.due("load(2, 0)", 1);
        e.due("fall(0, 2)", -9);
        e.due("write(2, 39, least)", 1);
    }

    private static void writeRefused(Edges e) {
        e.says(44, "BEYOND: no such sheet.");
        e.beyond("write(-1, 0, 0)", "write(4, 0, 0)", "write(least, 0, 0)", "write(most, 0, 0)");
        e.says(44, "MISSING.");
        e.missing("write(0, 0, 0)", "write(3, -1, 0)");
        e.says(44, "BEYOND: no such number.");
        row(e, 0, 8, 3, 4);
        e.beyond("write(0, -1, 0)", "write(0, 2, 0)", "write(0, least, 0)", "write(0, most, 0)");
        e.play("sheet(1, 8, 0); sheet(2, 8, 40)");
        e.beyond("write(1, 0, 0)", "write(2, 40, 0)");
    }

    private static void copyComes(Edges e) {
        e.says(45, "n numbers of a sheet from one on come to another one from one on");
        row(e, 0, 8, 1, 2, 3, 4, 5);
        row(e, 1, 8, 0, 0, 0);
        e.due("copy(0, 1, 1, 0, 3)", 3);
        numbers(e, 1, 2, 3, 4);
        numbers(e, 0, 1, 2, 3, 4, 5);
        e.due("copy(0, 4, 1, 2, 1)", 1);
        numbers(e, 1, 2, 3, 5);
        e.due("copy(1, 0, 0, 2, 3)", 3);
        numbers(e, 0, 1, 2, 2, 3, 5);
        e.due("copy(0, 5, 1, 3, 0)", 0);
        e.due("copy(0, 0, 1, 0, 0)", 0);
        e.play("sheet(2, 8, 0)");
        e.due("copy(2, 0, 2, 0, 0)", 0);
        e.due("copy(2, 0, 0, 5, 0)", 0);
        numbers(e, 0, 1, 2, 2, 3, 5);
        e.play("sheet(2, 8, 40); sheet(3, 8, 40); write(2, 39, 7)");
        e.due("copy(2, 0, 3, 0, 40)", 40);
        e.due("copy(3, 39, 0, 0, 1)", 1);
        numbers(e, 0, 7, 2, 2, 3, 5);
    }

    private static void copyAsTheyAllWere(Edges e) {
        e.says(45, "(as they all were): n.");
        row(e, 0, 16, 1, 2, 3, 4, 5);
        e.due("copy(0, 0, 0, 1, 4)", 4);
        numbers(e, 0, 1, 1, 2, 3, 4);
        e.due("copy(0, 2, 0, 0, 3)", 3);
        numbers(e, 0, 2, 3, 4, 3, 4);
        e.due("copy(0, 0, 0, 0, 5)", 5);
        numbers(e, 0, 2, 3, 4, 3, 4);
    }

    private static void twoRows(Edges e) {
        row(e, 0, 8, 1, 2, 3, 4, 5);
        row(e, 1, 8, 6, 7, 8);
        row(e, 2, 16, 1, 2, 3);
    }

    private static void copyBeyondSheets(Edges e) {
        e.says(45, "BEYOND: no such sheet (either).");
        twoRows(e);
        e.beyond("copy(-1, 0, 0, 0, 1)", "copy(4, 0, 0, 0, 1)", "copy(0, 0, -1, 0, 1)", "copy(0, 0, 4, 0, 1)");
        e.beyond("copy(least, 0, 3, 0, 1)", "copy(3, 0, most, 0, 1)", "copy(4, 0, 4, 0, 1)");
    }

    private static void copyMissing(Edges e) {
        e.says(45, "MISSING: one is.");
        twoRows(e);
        e.missing("copy(3, 0, 0, 0, 1)", "copy(0, 0, 3, 0, 1)", "copy(3, 0, 3, 0, 0)", "copy(3, -1, 2, 0, 1)");
    }

    private static void copyKind(Edges e) {
        e.says(45, "KIND: they are not of as many bits.");
        twoRows(e);
        e.kind("copy(0, 0, 2, 0, 1)", "copy(2, 0, 0, 0, 1)", "copy(2, 0, 1, 0, 0)", "copy(0, 0, 2, 0, 99)", "copy(0, -1, 2, 0, 1)");
        e.play("sheet(3, 32, 3)");
        e.kind("copy(2, 0, 3, 0, 1)", "copy(3, 0, 2, 0, 1)");
    }

    private static void copyBeyond(Edges e) {
        e.says(45, "BEYOND: one has not so many, or from, to or n is below 0.");
        twoRows(e);
        e.beyond("copy(0, 0, 1, 0, 4)", "copy(1, 0, 0, 0, 4)", "copy(0, 3, 1, 0, 3)", "copy(0, 0, 1, 1, 3)");
        e.beyond("copy(0, 5, 1, 0, 1)", "copy(0, 6, 1, 0, 0)", "copy(0, 0, 1, 3, 1)", "copy(0, 0, 1, 4, 0)");
        e.beyond("copy(0, -1, 1, 0, 1)", "copy(0, 0, 1, -1, 1)", "copy(0, 0, 1, 0, -1)", "copy(0, -1, 1, -1, 0)");
        e.beyond("copy(0, most, 1, 0, 1)", "copy(0, 1, 1, 1, most)", "copy(0, 0, 1, most, most)", "copy(0, most, 1, 0, most)");
        e.beyond("copy(0, least, 1, 0, 0)", "copy(0, 0, 1, least, 0)", "copy(0, 0, 1, 0, least)", "copy(0, least, 1, least, least)");
    }

    private static void loadBecomes(Edges e) {
        e.says(46, "Numbers of a sheet, from its begin on, become FALLS of CELLS from one on: how many came.");
        row(e, 0, 8, 9, -9, 0);
        e.due("load(0, 4)", 3);
        int[] falls = {2, 9, -9, 0, 2};
        for (int i = 0; i < falls.length; i++) {
            e.due("fall(" + (3 + i) + ", 2)", falls[i]);
        }
        e.play("sheet(1, 8, 0)");
        e.due("load(1, 0)", 0);
        e.due("load(1, 30)", 0);
        e.due("load(0, 0)", 3);
        e.due("fall(0, 2)", 9);
    }

    private static void loadEnds(Edges e) {
        e.says(46, "It ends at the first that isn't -9 to 9, or for which there is no CELL.");
        row(e, 0, 8, 9, -9, 0, 10, 3);
        e.due("load(0, 4)", 3);
        e.due("fall(7, 2)", 2);
        e.due("fall(8, 2)", 2);
        e.play("write(0, 1, -10)");
        e.due("load(0, 0)", 1);
        e.play("write(0, 0, 10)");
        e.due("load(0, 0)", 0);
        e.play("write(0, 0, 9); write(0, 1, -9)");
        e.due("load(0, 28)", 3);
        e.due("load(0, 29)", 2);
        e.due("load(0, 30)", 1);
        e.due("fall(30, 2)", 9);
        e.due("fall(29, 2)", 9);
        e.play("sheet(1, 32, 40)");
        e.due("load(1, 0)", 31);
        e.due("fall(30, 2)", 0);
        e.play("sheet(1, 32, 1); write(1, 0, least)");
        e.due("load(1, 0)", 0);
    }

    private static void loadRefused(Edges e) {
        e.says(46, "BEYOND: no such sheet.");
        e.beyond("load(-1, 0)", "load(4, 0)", "load(least, 0)", "load(most, 0)");
        e.says(46, "MISSING.");
        e.missing("load(0, 0)", "load(3, 31)");
        e.says(46, "BEYOND: no such CELL.");
        row(e, 0, 8, 3, 4);
        e.play("sheet(1, 8, 0)");
        e.beyond("load(0, -1)", "load(0, 31)", "load(0, least)", "load(0, most)", "load(1, 31)");
    }

    private static void judgeTells(Edges e) {
        e.says(47, "THE READER: numbers of a sheet are CELLS of a THING 1, 2, .. MINUTES AHEAD: 0 if all are; else 1 and the place of the first that isn't.");
        e.town("thing(0, 10); thing(0, 10); go(0)");
        row(e, 0, 8, 1, 3, 5, 8, 12, 16, 21, 26, 30, 30);
        e.tells("judge(0, 0)", 0);
        e.tells("judge(0, 1)", 1);
        e.play("write(0, 9, 29)");
        e.tells("judge(0, 0)", 10);
        e.play("write(0, 4, -12)");
        e.tells("judge(0, 0)", 5);
        e.play("write(0, 0, 0)");
        e.tells("judge(0, 0)", 1);
        e.play("sheet(1, 16, 0); sheet(2, 32, 40)");
        e.tells("judge(1, 0)", 0);
        e.tells("judge(2, 1)", 0);
        e.play("write(2, 39, 1)");
        e.tells("judge(2, 1)", 40);
        e.town("thing(0, 10); put(0, 5); fall(5, 9); ground(7, 3); go(0)");
        row(e, 0, 8, 7, 7);
        e.tells("judge(0, 0)", 0);
        e.town("thing(0, 10); thing(0, 10); put(1, 1); go(0)");
        row(e, 0, 8, 1, 1);
        e.tells("judge(0, 0)", 0);
    }

    private static void judgeRefused(Edges e) {
        e.says(47, "BEYOND: no such sheet.");
        e.town("thing(0, 10)");
        e.beyond("judge(-1, 0)", "judge(4, 0)", "judge(least, 0)", "judge(most, 9)");
        e.says(47, "MISSING.");
        e.town("thing(0, 10)");
        e.missing("judge(0, 0)", "judge(3, 1)", "judge(3, -1)");
        e.says(47, "BEYOND: no such THING.");
        e.town("sheet(0, 8, 1)");
        e.beyond("judge(0, 0)");
        e.play("thing(0, 10)");
        e.beyond("judge(0, -1)", "judge(0, 1)", "judge(0, least)", "judge(0, most)");
    }

    private static void judgeState(Edges e) {
        e.says(47, "STATE: MINUTE would be above 9999.");
        e.town("thing(0, 10); sheet(0, 8, 2); sheet(1, 8, 0); sheet(2, 8, 40)");
        e.minute(9959);
        e.tells("judge(2, 0)", 0);
        e.play("minutes(1)");
        e.state("judge(2, 0)");
        e.minute(9997);
        e.tells("judge(0, 0)", 0);
        e.play("minutes(1)");
        e.state("judge(0, 0)");
        e.play("write(0, 0, 5)");
        e.state("judge(0, 0)");
        e.play("minutes(1)");
        e.state("judge(0, 0)");
        e.tells("judge(1, 0)", 0);
    }
}
