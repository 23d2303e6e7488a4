/** Point 3 of the Terms, and promises 38 to 40, sentence by sentence. */
final class TextsEdges {
    private TextsEdges() {
    }

    static void all(Edges e) {
        theTape(e);
        tokensAsLongAsCanBe(e);
        words(e);
        numbers(e);
        signs(e);
        blanks(e);
        itemsDividedBySemicolons(e);
        groundItems(e);
        groundCells(e);
        fallItems(e);
        shutItems(e);
        thingItems(e);
        faultIsThePlace(e);
        faultOfANumber(e);
        faultOfAWord(e);
        faultOfAByte(e);
        faultOfAnEleventhThing(e);
        faultOfTheEnd(e);
        feedGets(e);
        feedTells(e);
        feedBeyond(e);
        feedFull(e);
        wipeEmpties(e);
        textEmpties(e);
        textIsSoItemByItem(e);
        textWithAFault(e);
        textWithAFaultChangesNothing(e);
    }

    private static void theTape(Edges e) {
        e.says(0, "A TEXT is read from THE TAPE (bytes, at most 120).");
        String most = "sand3;".repeat(19) + "sand30";
        e.reads(most, 20);
        e.tells("count(4)", 29);
        e.feed(most);
        e.full("feed(59, 1)");
        e.tells("count(5)", 120);
        e.due("text()", 20);
        e.fault(";".repeat(120), 0);
        e.fault("-".repeat(120), 0);
        e.fault("$".repeat(120), 0);
        e.fault("a".repeat(120), 0);
        e.fault("1a".repeat(60), 0);
        e.fault("sand 3" + "-".repeat(114), 6);
    }

    private static void tokensAsLongAsCanBe(Edges e) {
        e.says(0, "TOKENS, each as long as can be:");
        e.fault("sandto 3", 0);
        e.fault("sands", 0);
        e.fault("fall 3by2to", 9);
        e.fault("sand 3to31", 8);
        e.fault("sand 310", 5);
        e.fault("box weightrolls", 4);
        e.reads("sand3to5;fall3by-2;shut5to6;drum weight40rolls3lean2", 4);
        e.tells("of(0, 1)", 40);
        e.tells("of(0, 2)", 3);
        e.tells("of(0, 3)", 2);
        e.due("fall(3, 0)", -2);
        e.due("ground(5, 0)", 1);
    }

    private static void words(Edges e) {
        e.says(0, "WORDS (letters a to z),");
        e.fault("Sand 3", 0);
        e.fault("sanD 3", 0);
        e.fault("SAND 3", 0);
        e.fault("sand 3 TO 4", 7);
        e.fault("`", 0);
        e.fault("{", 0);
        e.fault("sand_ 3", 4);
        e.fault("sand{3", 4);
        e.fault("sand`3", 4);
        e.fault("z 3", 0);
        e.fault("a 3", 0);
        e.fault("sandz 3", 0);
        e.fault("sanda 3", 0);
        e.fault("asand 3", 0);
    }

    private static void numbers(Edges e) {
        e.says(0, "NUMBERS (digits, 999 at most),");
        e.fault("sand 999", 5);
        e.fault("sand 1000", 5);
        e.fault("sand 1003", 5);
        e.fault("sand 4294967299", 5);
        e.fault("sand 18446744073709551619", 5);
        e.fault("sand " + "9".repeat(115), 5);
        e.fault("sand /", 5);
        e.fault("sand :", 5);
        e.fault("sand 3/", 6);
        e.fault("sand 3:", 6);
        e.reads("sand 09;sand 000000030;sand 0", 3);
        e.due("ground(9, 0)", 1);
        e.due("ground(30, 0)", 1);
        e.due("ground(0, 0)", 1);
    }

    private static void signs(Edges e) {
        e.says(0, "SIGNS ; and -;");
        e.fault(";", 0);
        e.fault("-", 0);
        e.fault("sand 3,", 6);
        e.fault("sand 3.", 6);
        e.fault("sand 3=", 6);
        e.fault("fall 3 by +2", 10);
        e.fault("fall 3 by --2", 11);
        e.fault("fall 3 by ;2", 10);
        e.fault("sand 3-sand 4", 6);
        e.fault("sand 3;;sand 4", 7);
        e.reads("fall 3 by -2;fall 4 by 2", 2);
        e.due("fall(3, 0)", -2);
        e.due("fall(4, 0)", 2);
    }

    private static void blanks(Edges e) {
        e.says(0, "blanks may stand between.");
        e.reads("  sand   3   to  4 ;  fall 5 by  -  6  ", 2);
        e.due("ground(4, 0)", 1);
        e.due("fall(5, 0)", -6);
        e.fault("sa nd 3", 0);
        e.fault("sand 1 2", 7);
        e.fault("sand\t3", 4);
        e.fault("sand\n3", 4);
        e.fault("sand\r3", 4);
        e.fault("sand" + (char) 160 + "3", 4);
        e.fault("sand" + (char) 0 + "3", 4);
    }

    private static void itemsDividedBySemicolons(Edges e) {
        e.says(0, "TEXT: ITEM { ; ITEM }.");
        e.reads("sand 1", 1);
        e.reads("sand 1;sand 2", 2);
        e.reads("sand 1;sand 2;sand 3", 3);
        e.fault("", 0);
        e.fault(";sand 1", 0);
        e.fault("sand 1;", 7);
        e.fault("sand 1; ;sand 2", 8);
        e.fault("sand 1 sand 2", 7);
        e.fault("box box", 4);
    }

    private static void groundItems(Edges e) {
        e.says(0, "ITEM: stone, sand, straw, bend or gate, a NUMBER (0 to 30),");
        e.reads("gate 0;bend 1;straw 2;sand 30;sand 4;stone 4", 6);
        int[] cells = {0, 1, 2, 3, 4, 29, 30};
        int[] grounds = {4, 3, 2, 0, 0, 0, 1};
        for (int i = 0; i < cells.length; i++) {
            e.due("ground(" + cells[i] + ", 0)", grounds[i]);
        }
        for (String word : new String[] {"stone", "sand", "straw", "bend", "gate"}) {
            e.fault(word, word.length());
            e.fault(word + " 31", word.length() + 1);
            e.fault(word + " -1", word.length() + 1);
            e.fault(word + " to 3", word.length() + 1);
            e.fault(word + " 3 by 3", word.length() + 3);
        }
    }

    private static void groundCells(Edges e) {
        e.says(0, "perhaps to and a NUMBER (0 to 30, not less): GROUND of these CELLS;");
        e.reads("sand 0 to 30;straw 3 to 3;gate 10 to 12", 3);
        for (int c = 0; c < 31; c++) {
            e.due("ground(" + c + ", 0)", c == 3 ? 2 : c >= 10 && c <= 12 ? 4 : 1);
        }
        e.fault("sand 3 to 2", 10);
        e.fault("sand 3 to 31", 10);
        e.fault("sand 30 to 29", 11);
        e.fault("sand 3 to -4", 10);
        e.fault("sand 3 to", 9);
        e.fault("sand 3 to 4 to 5", 12);
    }

    private static void fallItems(Edges e) {
        e.says(0, "fall, a NUMBER (0 to 30), perhaps to and a NUMBER (likewise), by, perhaps -, a NUMBER (0 to 9);");
        e.reads("fall 0 by 9;fall 30 by -9;fall 5 to 7 by 0;fall 9 to 9 by -0;fall 10 to 30 by 1", 5);
        int[] cells = {0, 1, 4, 5, 6, 7, 8, 9, 10, 30};
        int[] falls = {9, 2, 2, 0, 0, 0, 2, 0, 1, 1};
        for (int i = 0; i < cells.length; i++) {
            e.due("fall(" + cells[i] + ", 2)", falls[i]);
        }
        e.reads("fall 30 by -9", 1);
        e.due("fall(30, 2)", -9);
        e.fault("fall", 4);
        e.fault("fall 31 by 1", 5);
        e.fault("fall 3", 6);
        e.fault("fall 3 4", 7);
        e.fault("fall 3 to 2 by 1", 10);
        e.fault("fall 3 to 31 by 1", 10);
        e.fault("fall 3 to 4", 11);
        e.fault("fall 3 by", 9);
        e.fault("fall 3 by 10", 10);
        e.fault("fall 3 by -10", 11);
        e.fault("fall 3 by -", 11);
        e.fault("fall 3 by 1 to 4", 12);
    }

    private static void shutItems(Edges e) {
        e.says(0, "shut, a NUMBER (0 to 59), to, a NUMBER (0 to 59);");
        e.reads("shut 59 to 0", 1);
        e.due("gate(0, 1)", 59);
        e.due("gate(1, 1)", 0);
        e.reads("shut 0 to 59;shut 7 to 7", 2);
        e.due("gate(0, 1)", 7);
        e.due("gate(1, 1)", 7);
        e.fault("shut", 4);
        e.fault("shut 60 to 1", 5);
        e.fault("shut 1", 6);
        e.fault("shut 1 2", 7);
        e.fault("shut 1 to", 9);
        e.fault("shut 1 to 60", 10);
        e.fault("shut -1 to 3", 5);
        e.fault("shut 1 to -3", 10);
    }

    private static void thingItems(Edges e) {
        e.says(0, "thing, cheese, drum, rock, bale, ring or box, perhaps weight and a NUMBER (1 to 99), perhaps rolls and a NUMBER"
            + " (1 to 9), perhaps lean and a NUMBER (0 to 9): a new THING.");
        e.reads("thing;cheese weight 1;drum weight 99;rock rolls 1;bale rolls 9 lean 9", 5);
        e.reads("ring weight 2 lean 0;box weight 3 rolls 4 lean 5", 2);
        int[][] want = {
            {0, 10, 4, 0}, {1, 1, 4, 0}, {2, 99, 4, 0}, {3, 10, 1, 0}, {4, 10, 9, 9}, {5, 2, 4, 0}, {6, 3, 4, 5}};
        for (int i = 0; i < 7; i++) {
            for (int what = 0; what < 8; what++) {
                e.tells("of(" + i + ", " + what + ")", what < 4 ? want[i][what] : 0);
            }
        }
        e.fault("box weight 0", 11);
        e.fault("box weight 100", 11);
        e.fault("box weight", 10);
        e.fault("box rolls 0", 10);
        e.fault("box rolls 10", 10);
        e.fault("box rolls", 9);
        e.fault("box rolls;box", 9);
        e.fault("box lean", 8);
        e.fault("box lean;box", 8);
        e.fault("box weight;box", 10);
        e.fault("box lean 10", 9);
        e.fault("box lean -1", 9);
        e.fault("box rolls 3 weight 3", 12);
        e.fault("box lean 3 rolls 3", 11);
        e.fault("box lean 3 weight 3", 11);
        e.fault("box lean 3 lean 3", 11);
        e.fault("box weight 3 weight 3", 13);
        e.fault("box 3", 4);
    }

    private static void faultIsThePlace(Edges e) {
        e.says(0, "FAULT: the place (from 0) of the first byte of the first TOKEN that can't stand there");
        e.fault("x", 0);
        e.fault("  x", 2);
        e.fault("sand   three", 7);
        e.fault("sand 3;  straw  99 to $", 16);
        e.fault("sand 3 $ x", 7);
        e.fault(" ".repeat(119) + "x", 119);
    }

    private static void faultOfANumber(Edges e) {
        e.says(0, "(a NUMBER that isn't as told,");
        e.fault("3", 0);
        e.fault("sand 31", 5);
        e.fault("sand 30 to 31", 11);
        e.fault("fall 3 by 10", 10);
        e.fault("shut 60 to 60", 5);
        e.fault("box weight 00", 11);
        e.fault("box rolls 010", 10);
    }

    private static void faultOfAWord(Edges e) {
        e.says(0, "another WORD,");
        e.fault("mud 3", 0);
        e.fault("hand 3", 0);
        e.fault("sane 3", 0);
        e.fault("sad 3", 0);
        e.fault("san", 0);
        e.fault("to 3", 0);
        e.fault("by 3", 0);
        e.fault("weight 3", 0);
        e.fault("sand 3 too 4", 7);
        e.fault("fall 3 at 4", 7);
        e.fault("shut 3 by 4", 7);
        e.fault("box heavy", 4);
        e.fault("box to 3", 4);
        e.fault("sand 3;mud 3", 7);
    }

    private static void faultOfAByte(Edges e) {
        e.says(0, "a byte that begins no TOKEN,");
        e.fault("$", 0);
        e.fault("sand $", 5);
        e.fault("sand 3$", 6);
        e.fault("sand 3 " + (char) 255, 7);
        e.fault("sand 3;" + (char) 128, 7);
        e.fault((char) 0 + "sand 3", 0);
        e.fault("box!", 3);
    }

    private static void faultOfAnEleventhThing(Edges e) {
        e.says(0, "the WORD of an 11th THING: its own),");
        e.fault("ring;".repeat(10) + "ring", 50);
        e.fault("ring;".repeat(10) + "  box weight 0", 52);
        e.reads("ring;".repeat(9) + "ring", 10);
        e.fault("sand 3; box", 8);
        e.fault("box heavy", 0);
        e.fault("boxes", 0);
        e.reads("sand 3", 1);
        e.town("thing(0, 10);".repeat(9));
        e.fault("drum;rock", 5);
        e.reads("drum", 1);
        e.tells("of(9, 0)", 2);
    }

    private static void faultOfTheEnd(Edges e) {
        e.says(0, "or how many bytes there are if it ends too early.");
        e.fault("", 0);
        e.fault(" ", 1);
        e.fault(" ".repeat(120), 120);
        e.fault("sand", 4);
        e.fault("sand ", 5);
        e.fault("sand 3 to ", 10);
        e.fault("fall 3 by - ", 12);
        e.fault("sand 3;  ", 9);
        e.fault("box weight  ", 12);
        e.fault("sand3;".repeat(20), 120);
    }

    /** Of 7fff2033 the two lowest: a blank, then 3. */
    private static void feedGets(Edges e) {
        e.says(38, "THE TAPE gets the n lowest bytes of a number behind it, the highest of these first");
        e.due("feed(" + 0x73616e64 + ", 4)", 4);
        e.due("feed(" + 0x7fff2033 + ", 2)", 6);
        e.due("text()", 1);
        e.due("ground(3, 0)", 1);
        e.due("feed(" + 0xff626f78 + ", 3)", 3);
        e.due("text()", 1);
        e.tells("of(0, 0)", 6);
        e.due("feed(-1, 1)", 1);
        e.due("feed(" + 0xffffff78 + ", 1)", 2);
        e.due("text()", -1);
        e.due("feed(" + 0x20202020 + ", 4)", 4);
        e.due("feed(-256, 1)", 5);
        e.due("text()", -5);
    }

    private static void feedTells(Edges e) {
        e.says(38, "(n 1 to 4): how many it has.");
        e.due("feed(0, 1)", 1);
        e.due("feed(0, 2)", 3);
        e.due("feed(0, 3)", 6);
        e.due("feed(0, 4)", 10);
        e.tells("count(5)", 10);
    }

    private static void feedBeyond(Edges e) {
        e.says(38, "BEYOND: n.");
        e.beyond("feed(0, 0)", "feed(0, 5)", "feed(0, -1)", "feed(0, least)", "feed(0, most)");
    }

    private static void feedFull(Edges e) {
        e.says(38, "FULL.");
        e.feed(" ".repeat(116));
        e.due("feed(0, 1)", 117);
        e.full("feed(0, 4)");
        e.due("feed(0, 3)", 120);
        e.full("feed(0, 1)", "feed(0, 2)", "feed(0, 3)", "feed(0, 4)");
        e.due("wipe()", 120);
        e.due("feed(0, 4)", 4);
    }

    private static void wipeEmpties(Edges e) {
        e.says(39, "THE TAPE is empty: how many it had.");
        e.due("wipe()", 0);
        e.feed("sand 3");
        e.due("wipe()", 6);
        e.tells("count(5)", 0);
        e.due("wipe()", 0);
        e.due("text()", -1);
        e.tells("count(4)", 31);
        e.feed("x".repeat(120));
        e.due("wipe()", 120);
    }

    private static void textEmpties(Edges e) {
        e.says(40, "THE TAPE is a TEXT, and empty then;");
        e.feed("sand 3");
        e.due("text()", 1);
        e.tells("count(5)", 0);
        e.due("text()", -1);
        e.reads("box", 1);
        e.reads("ring    ", 1);
        e.fault("sand", 4);
    }

    private static void textIsSoItemByItem(Edges e) {
        e.says(40, "all that it tells is so, item by item: how many ITEMS.");
        e.town("thing(0, 20); go(0); minutes(1); hold(4, 0); seed(9)");
        e.reads("sand 1 to 9;stone 3;fall 3 by 4;fall 3 by 5;shut 1 to 2;shut 3 to 4;ring;box", 8);
        e.tells("count(1)", 3);
        e.tells("of(0, 5)", 16);
        e.tells("of(0, 6)", 1);
        e.tells("of(1, 0)", 5);
        e.tells("of(2, 0)", 6);
        e.tells("count(0)", 1);
        e.tells("count(4)", 23);
        e.tells("count(6)", 9);
        e.tells("as(4, 0)", 0);
        e.due("ground(3, 0)", 0);
        e.due("ground(9, 0)", 1);
        e.due("fall(3, 0)", 5);
        e.due("gate(0, 0)", 3);
        e.due("gate(1, 0)", 4);
    }

    private static void textWithAFault(Edges e) {
        e.says(40, "With a FAULT: -1 less the FAULT");
        e.due("text()", -1);
        e.fault("sand x", 5);
        e.fault(" ".repeat(120), 120);
        e.due("text()", -1);
    }

    private static void textWithAFaultChangesNothing(Edges e) {
        e.says(40, "(nothing changes but that THE TAPE is empty; no finding).");
        e.town("thing(0, 10); go(0); minutes(1); hold(3, 0); image(); sheet(0, 8, 2); write(0, 0, 3)");
        e.fault("sand 1 to 9;fall 2 to 9 by 1;shut 3 to 4;drum weight 4;x", 55);
        e.fault("thing weight 5 rolls 0", 21);
        e.fault("stone 0 to 30;;", 14);
        e.due("thing(1, 7)", 1);
        e.tells("of(1, 1)", 7);
    }
}
