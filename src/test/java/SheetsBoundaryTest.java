import java.util.Arrays;

/** What the document says of the bounds of SHEETS and FINDINGS: promises 23 to 28. */
public final class SheetsBoundaryTest {
    private static final Sentences DOC = new Sentences("SheetsBoundaryTest");
    private static final int LEAST = Integer.MIN_VALUE;
    private static final int MOST = Integer.MAX_VALUE;
    private static final int[] NO_SHEET = {-1, 4, 5, LEAST, MOST};
    private static final int[] NO_FORM = {-1, 3, 4, LEAST, MOST};

    private static Village village(String deeds, int... undoings) {
        return DOC.village(deeds, undoings);
    }

    private static int[] from(int first, int many) {
        int[] items = new int[many];
        for (int i = 0; i < many; i++) {
            items[i] = first + i;
        }
        return items;
    }

    // ---- what a sheet is

    private static void lostAtFirst() {
        Village x = village("0");
        for (int s = 0; s < 4; s++) {
            x.due(-11, "lose", s).due(-11, "write", s).due(-11, "read", s).due(LEAST, "get", s, 0, 0);
            x.due(-11, "lay", s, 2, 0, 0).due(-11, "copy", s, 0, s, 0, 0);
        }
        for (int s = 0; s < 4; s++) {
            x.due(s, "sheet", s, 0, s).due(s, "lose", s).due(-11, "lose", s);
        }
    }

    private static void sixtyItemsAtFirstZero() {
        for (int form = 0; form < 3; form++) {
            Village x = village("").due(60, "sheet", 3, form, 60).dueItems(3, form, new int[60]);
            x.due(1, "lay", 3, form, 59, 7).due(7, "get", 3, form, 59).due(1, "lay", 3, form, 0, 8);
            x.due(-12, "lay", 3, form, 60, 7).due(LEAST, "get", 3, form, 60);
            x.due(60, "sheet", 3, form, 60).dueItems(3, form, new int[60]);
            Village none = village("").due(0, "sheet", 0, form, 0).due(-12, "lay", 0, form, 0, 1);
            none.due(LEAST, "get", 0, form, 0).due(2, "count", 8).due(0, "lose", 0).due(-11, "lose", 0);
            Village one = village("").due(1, "sheet", 0, form, 1).due(1, "lay", 0, form, 0, 1);
            one.due(-12, "lay", 0, form, 1, 1).due(1, "get", 0, form, 0).due(LEAST, "get", 0, form, 1);
        }
    }

    private static void aNewRow() {
        Village x = village("").sheet(1, 2, from(1, 60));
        x.due(3, "sheet", 1, 2, 3).dueItems(1, 2, 0, 0, 0).due(LEAST, "get", 1, 2, 3);
        x.due(60, "sheet", 1, 2, 60).dueItems(1, 2, new int[60]);
        x.sheet(1, 2, 300, 400).due(2, "sheet", 1, 0, 2).dueItems(1, 0, 0, 0).due(LEAST, "get", 1, 2, 0);
        x.due(3, "count", 8).due(0, "sheet", 1, 0, 0).due(0, "lose", 1);
    }

    private static void sheetRefuses() {
        Village x = village("").sheet(0, 1, 5, 6);
        for (int i = 0; i < NO_SHEET.length; i++) {
            x.due(-2, "sheet", NO_SHEET[i], 0, 1).due(-2, "sheet", 0, NO_FORM[i], 1);
            x.due(-2, "sheet", NO_SHEET[i], 0, -1).due(-2, "sheet", 0, NO_FORM[i], -1);
            x.due(-2, "sheet", NO_SHEET[i], NO_FORM[i], 61);
        }
        x.due(-2, "sheet", 0, 0, 61).due(-2, "sheet", 0, 2, MOST).due(0, "count", 8).dueItems(0, 1, 5, 6);
        x.due(-15, "sheet", 0, 0, -1).due(5, "count", 8).due(-15, "sheet", 0, 2, LEAST).dueItems(0, 1, 5, 6);
        x.due(-15, "sheet", 2, 2, -60).due(-11, "lose", 2).due(2, "lose", 0);
    }

    private static void loseTells() {
        Village x = village("");
        for (int s : NO_SHEET) {
            x.due(-2, "lose", s);
        }
        x.due(0, "count", 8).due(-11, "lose", 0).due(1, "count", 8);
        int[] sizes = {0, 1, 59, 60};
        for (int n : sizes) {
            for (int s = 0; s < 4; s++) {
                x.due(n, "sheet", s, 1, n).due(n, "lose", s).due(-11, "lose", s).due(LEAST, "get", s, 1, 0);
            }
        }
    }

    // ---- items

    private static void lowestBitsWithTheSign() {
        int[] given = {0, 1, -1, 127, 128, 129, 255, 256, 257, -127, -128, -129, -256, 32767, 32768, 32769, 65535,
            65536, -32767, -32768, -32769, -65536, 8421504, 16777215, MOST, LEAST, MOST - 127, LEAST + 128};
        int[] bytes = {0, 1, -1, 127, -128, -127, -1, 0, 1, -127, -128, 127, 0, -1, 0, 1, -1, 0, 1, 0, -1, 0, -128, -1,
            -1, 0, -128, -128};
        int[] shorts = {0, 1, -1, 127, 128, 129, 255, 256, 257, -127, -128, -129, -256, 32767, -32768, -32767, -1, 0,
            -32767, -32768, 32767, 0, -32640, -1, -1, 0, -128, 128};
        Village x = village("").sheet(0, 0, given).sheet(1, 1, given).sheet(2, 2, given);
        x.dueItems(0, 0, bytes).dueItems(1, 1, shorts).dueItems(2, 2, given);
    }

    private static void layRefuses() {
        Village x = village("").sheet(0, 0, 5, 6).sheet(1, 1, 5, 6).sheet(2, 2, 5, 6);
        for (int i = 0; i < NO_SHEET.length; i++) {
            x.due(-2, "lay", NO_SHEET[i], 0, 0, 1).due(-2, "lay", 0, NO_FORM[i], 0, 1);
            x.due(-2, "lay", NO_SHEET[i], 0, -1, 1).due(-2, "lay", 3, NO_FORM[i], 0, 1);
        }
        x.due(0, "count", 8).due(-11, "lay", 3, 0, 0, 1).due(1, "count", 8).due(-11, "lay", 3, 0, -1, 1);
        for (int s = 0; s < 3; s++) {
            for (int form = 0; form < 3; form++) {
                if (form != s) {
                    x.due(-13, "lay", s, form, 0, 1).due(-13, "lay", s, form, -1, 1).due(3, "count", 8);
                }
            }
            x.due(-12, "lay", s, s, -1, 1).due(2, "count", 8).due(-12, "lay", s, s, 2, 1);
            x.due(-12, "lay", s, s, 60, 1).due(-12, "lay", s, s, LEAST, 1).due(-12, "lay", s, s, MOST, 1);
            x.dueItems(s, s, 5, 6);
        }
    }

    private static void getRefuses() {
        Village x = village("").sheet(0, 0, 5, 6).sheet(1, 1, 5, 6).sheet(2, 2, 5, 6);
        for (int i = 0; i < NO_SHEET.length; i++) {
            x.due(LEAST, "get", NO_SHEET[i], 0, 0).due(LEAST, "get", 0, NO_FORM[i], 0);
            x.due(LEAST, "get", NO_SHEET[i], 0, -1).due(LEAST, "get", 3, NO_FORM[i], 0);
        }
        x.due(0, "count", 8).due(LEAST, "get", 3, 0, 0).due(1, "count", 8);
        for (int s = 0; s < 3; s++) {
            for (int form = 0; form < 3; form++) {
                if (form != s) {
                    x.due(LEAST, "get", s, form, 0).due(3, "count", 8).due(LEAST, "get", s, form, -1);
                    x.due(3, "count", 8).due(LEAST, "get", 3, form, -1).due(1, "count", 8);
                }
            }
            x.due(LEAST, "get", s, s, -1).due(2, "count", 8).due(-11, "lose", 3).due(LEAST, "get", s, s, 2);
            x.due(2, "count", 8).due(LEAST, "get", s, s, LEAST).due(LEAST, "get", s, s, MOST).dueItems(s, s, 5, 6);
        }
        // The least int as an item is no refusal.
        x.due(1, "lay", 2, 2, 0, LEAST).due(-11, "lose", 3).due(LEAST, "get", 2, 2, 0).due(1, "count", 8);
    }

    // ---- copy

    private static void copyOntoItself() {
        for (int form = 0; form < 3; form++) {
            village("").sheet(0, form, 1, 2, 3, 4, 5).due(1, "copy", 0, 0, 0, 1, 4).dueItems(0, form, 1, 1, 2, 3, 4);
            village("").sheet(0, form, 1, 2, 3, 4, 5).due(1, "copy", 0, 1, 0, 0, 4).dueItems(0, form, 2, 3, 4, 5, 5);
            village("").sheet(0, form, 1, 2, 3, 4, 5).due(1, "copy", 0, 0, 0, 0, 5).dueItems(0, form, 1, 2, 3, 4, 5);
        }
        Village x = village("").sheet(3, 0, from(1, 60)).due(1, "copy", 3, 0, 3, 59, 1).due(1, "get", 3, 0, 59);
        x.due(1, "copy", 3, 1, 3, 0, 59).dueItems(3, 0, from(2, 58)).due(1, "get", 3, 0, 58).due(1, "get", 3, 0, 59);
    }

    private static void copyOfAllOrNone() {
        Village x = village("").sheet(0, 2, from(1, 60)).due(60, "sheet", 1, 2, 60);
        x.due(1, "copy", 0, 0, 1, 0, 60).dueItems(1, 2, from(1, 60));
        x.due(-12, "copy", 0, 0, 1, 0, 61).due(1, "copy", 0, 60, 1, 60, 0).due(-12, "copy", 0, 61, 1, 60, 0);
        x.due(-12, "copy", 0, 60, 1, 61, 0).due(-12, "copy", 0, 60, 1, 60, 1).dueItems(1, 2, from(1, 60));
        Village none = village("").due(0, "sheet", 0, 0, 0).due(0, "sheet", 1, 0, 0).due(1, "copy", 0, 0, 1, 0, 0);
        none.due(-12, "copy", 0, 1, 1, 0, 0).due(-12, "copy", 0, 0, 1, 1, 0).due(-12, "copy", 0, 0, 1, 0, 1);
        none.due(1, "copy", 0, 0, 0, 0, 0);
    }

    private static void copyRefuses() {
        Village x = village("").sheet(0, 1, 1, 2, 3).sheet(1, 1, 4, 5).sheet(2, 2, 6, 7);
        for (int s : NO_SHEET) {
            x.due(-2, "copy", s, 0, 0, 0, 0).due(-2, "copy", 0, 0, s, 0, 0).due(-2, "copy", s, 0, 3, 0, 0);
            x.due(-2, "copy", 3, -1, s, 0, 0).due(-2, "copy", s, 0, s, 0, -1);
        }
        x.due(0, "count", 8).due(-11, "copy", 3, 0, 0, 0, 0).due(-11, "copy", 0, 0, 3, 0, 0).due(1, "count", 8);
        x.due(-11, "copy", 3, -1, 2, 0, 0).due(-11, "copy", 2, 0, 3, 0, -1).due(-11, "copy", 3, 0, 3, 0, 0);
        x.due(-14, "copy", 0, 0, 2, 0, 1).due(4, "count", 8).due(-14, "copy", 2, 0, 0, 0, 1);
        x.due(-14, "copy", 0, -1, 2, 0, 1).due(-14, "copy", 0, 0, 2, 0, 0).due(-14, "copy", 0, 9, 2, 9, 9);
        int[][] no = {{-1, 0, 1}, {0, -1, 1}, {0, 0, -1}, {-1, 0, 0}, {0, -1, 0}, {0, 0, 3}, {2, 0, 2}, {0, 1, 2},
            {3, 0, 1}, {0, 2, 1}, {4, 0, 0}, {0, 3, 0}, {LEAST, 0, 1}, {0, LEAST, 1}, {0, 0, LEAST}, {MOST, 0, 1},
            {0, MOST, 1}, {0, 0, MOST}, {MOST, MOST, MOST}, {1, 1, MOST}, {MOST, 0, MOST}, {LEAST, LEAST, LEAST},
            {-1, 0, LEAST}, {4, 0, -1}, {-1, 0, 2}, {0, -1, 2}};
        for (int[] one : no) {
            x.due(-11, "lose", 3).due(-12, "copy", 0, one[0], 1, one[1], one[2]).due(2, "count", 8);
        }
        x.dueItems(0, 1, 1, 2, 3).dueItems(1, 1, 4, 5).dueItems(2, 2, 6, 7);
        x.due(1, "copy", 0, 1, 1, 0, 2).dueItems(1, 1, 2, 3).due(1, "copy", 0, 3, 1, 2, 0).dueItems(1, 1, 2, 3);
    }

    // ---- write

    private static void asManyAsThereAre() {
        for (int deeds = 0; deeds <= 12; deeds += 3) {
            int[] sizes = {0, 1, 3, 11, 12, 13, 60};
            for (int n : sizes) {
                int[] untouched = new int[n];
                Arrays.fill(untouched, 77);
                Village x = village(Texts.deeds(deeds, 0)).sheet(2, 0, untouched);
                x.due(Math.min(deeds, n), "write", 2);
                for (int i = 0; i < n; i++) {
                    x.due(i < deeds ? -1 : 77, "get", 2, 0, i);
                }
            }
        }
        Village fault = village("0;").sheet(2, 0, 77).due(0, "write", 2).due(77, "get", 2, 0, 0);
        fault.types("1").due(1, "write", 2).due(-1, "get", 2, 0, 0);
    }

    private static void rootsWithTheirSign() {
        for (int form = 0; form < 3; form++) {
            Village x = village(Texts.TWELVE, 1, 11, 2, 5, 3, 0).due(12, "sheet", form, form, 12);
            x.due(12, "write", form).dueItems(form, form, 0, -1, -1, -1, -1, 5, -1, -1, -1, -1, -1, 11);
            x.due(2, "undo").due(12, "write", form).due(-1, "get", form, form, 0).due(11, "get", form, form, 11);
        }
        village("0;1a;2b", 5, 0).sheet(0, 0, 9, 9, 9).due(3, "write", 0).dueItems(0, 0, 0, 0, 0);
    }

    private static void writeRefuses() {
        Village x = village("0");
        for (int s : NO_SHEET) {
            x.due(-2, "write", s);
        }
        x.due(0, "count", 8);
        for (int s = 0; s < 4; s++) {
            x.due(-11, "write", s).due(1, "count", 8);
        }
        x.sheet(1, 2, 9).due(1, "write", 1).due(1, "lose", 1).due(-11, "write", 1);
    }

    // ---- findings

    private static void findingsByNumber() {
        Village x = village("0").sheet(0, 0, 1).sheet(1, 1, 1).due(0, "count", 8);
        x.due(-11, "read", 2).due(1, "count", 8).due(-12, "lay", 0, 0, 1, 0).due(2, "count", 8);
        x.due(-13, "lay", 0, 1, 0, 0).due(3, "count", 8).due(-14, "copy", 0, 0, 1, 0, 0).due(4, "count", 8);
        x.due(-15, "sheet", 0, 0, -1).due(5, "count", 8).due(-11, "write", 3).due(1, "count", 8);
        x.due(-12, "copy", 0, 0, 0, 0, 2).due(2, "count", 8).due(-11, "lose", 3).due(1, "count", 8);
        // What is well, and what is refused without a finding, leaves the latest one.
        x.due(1, "lay", 0, 0, 0, 3).due(3, "get", 0, 0, 0).due(1, "copy", 0, 0, 0, 0, 1).due(1, "write", 0);
        x.due(0, "read", 1).due(-2, "read", 4).due(-2, "sheet", 0, 0, 61).due(-2, "lay", 4, 0, 0, 0);
        x.due(LEAST, "get", 4, 0, 0).due(-2, "copy", 4, 0, 0, 0, 0).due(-2, "count", 9).due(1, "wipe");
        x.due(-3, "undo").due(1, "count", 8);
    }

    public static void main(String[] args) {
        DOC.says("SHEETS 0 .. 3 are LOST (at first)", SheetsBoundaryTest::lostAtFirst);
        DOC.says("of 0 to 60 items (0 at first)", SheetsBoundaryTest::sixtyItemsAtFirstZero);
        DOC.says("A SHEET is a new row of a FORM with n items: n.", SheetsBoundaryTest::aNewRow);
        DOC.says("BAD: SHEET, FORM, above 60; SIZE.", SheetsBoundaryTest::sheetRefuses);
        DOC.says("It is LOST: how many items it had. BAD; NULL.", SheetsBoundaryTest::loseTells);
        DOC.says("becomes v (the lowest bits that it has, with its sign): 1.",
            SheetsBoundaryTest::lowestBitsWithTheSign);
        DOC.says("BAD; NULL; CAST; INDEX.", SheetsBoundaryTest::layRefuses);
        DOC.says("BAD: the least int; so are NULL, CAST, INDEX (count() 8 tells).", SheetsBoundaryTest::getRefuses);
        DOC.says("come to SHEET t (perhaps s, as they were), from j on: 1.", SheetsBoundaryTest::copyOntoItself);
        DOC.says("(with n 0, too, if i or j is above how many there are)", SheetsBoundaryTest::copyOfAllOrNone);
        DOC.says("BAD: the SHEETS; NULL: s, t; STORE; INDEX: below 0, not so many", SheetsBoundaryTest::copyRefuses);
        DOC.says("from item 0 on, as many as there are items and DEEDS: how many.",
            SheetsBoundaryTest::asManyAsThereAre);
        DOC.says("(of each the lowest bits that an item has, with its sign)", SheetsBoundaryTest::rootsWithTheirSign);
        DOC.says("as many as there are items and DEEDS: how many. BAD; NULL.", SheetsBoundaryTest::writeRefuses);
        DOC.says("1 NULL: the SHEET is LOST; 2 INDEX: there is no such item; 3 CAST: it has another FORM; "
            + "4 STORE: unlike FORMS; 5 SIZE: below 0.", SheetsBoundaryTest::findingsByNumber);
        DOC.end();
    }
}
