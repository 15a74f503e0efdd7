import java.util.Arrays;

/** What the document says of the bounds of UNDOINGS and of what stands: promises 6 to 8 and 10 to 15. */
public final class UndoingsBoundaryTest {
    private static final Sentences DOC = new Sentences("UndoingsBoundaryTest");
    private static final int LEAST = Integer.MIN_VALUE;
    private static final int MOST = Integer.MAX_VALUE;

    private static Village village(String deeds, int... undoings) {
        return DOC.village(deeds, undoings);
    }

    // ---- what is told

    private static void twelveUndoings() {
        Village x = village("0");
        for (int many = 1; many <= 12; many++) {
            x.due(-2, "holds", many - 1).due(many, "undoes", 0, 0).due(0, "holds", many - 1);
        }
        x.due(-4, "undoes", 1, 0).due(12, "count", 2).due(-2, "holds", 12).due(1, "state", 12, 0);
        x.due(11, "undo").due(12, "undoes", 1, 0).due(1, "holds", 11).due(0, "state", 12, 0);
        x.due(-4, "undoes", 2, 23).due(12, "count", 2);
    }

    private static void thingsByNumber() {
        village(Texts.TWELVE, 1, 0).due(4094, "state", 1, 0);
        village(Texts.TWELVE, 1, 11).due(2047, "state", 1, 0);
        village(Texts.TWELVE, 1, 11, 2, 12).due(0, "holds", 0).due(4095, "state", 2, 0);
        Village last = village(Texts.TWELVE).fills(10).due(11, "undoes", 1, 11).due(12, "undoes", 2, 22);
        last.due(0, "holds", 10).due(1, "holds", 11).due(4095, "state", 12, 0).due(10, "count", 3);
        village(Texts.TWELVE).fills(11).due(12, "undoes", 1, 23).due(0, "holds", 11).due(12, "count", 3);
        for (int thing = 12; thing < 24; thing++) {
            village(Texts.TWELVE, 1, thing).due(0, "judged").due(0, "holds", 0).due(4095, "state", 1, 0);
        }
    }

    private static void notAnythingAheadByTheLaw() {
        for (int p = 0; p < 6; p++) {
            int other = (p + 1) % 6;
            String deeds = Texts.deeds(3, other);
            village(deeds, p, 0, p, 1).due(1, "judged").due(6, "state", 2, 0).due(63 - (1 << p), "state", 2, 1);
            village(deeds, p, 3, p, 1).due(0, "judged").due(0, "holds", 0).due(1, "holds", 1).due(1, "count", 3);
            village(deeds, p, 0, (p + 2) % 6, 12, p, 1).due(2, "judged").due(0, "holds", 0).due(0, "holds", 2);
            village(deeds, p, 0, p, 1, p, 2).due(2, "count", 3).due(6, "state", 3, 0);
        }
    }

    private static void theDeedIsThere() {
        village("", 0, 0).due(0, "judged").due(63, "state", 1, 1);
        for (int many = 1; many <= 12; many++) {
            String deeds = Texts.deeds(many, 0);
            village(deeds, 1, many - 1).due(-1, "judged").due((1 << many - 1) - 1, "state", 1, 0);
            if (many < 12) {
                village(deeds, 1, many).due(0, "judged").due((1 << many) - 1, "state", 1, 0).due(63, "state", 1, 1);
            }
            village(deeds, 1, 11).due(many == 12 ? -1 : 0, "judged");
        }
        Village later = village("0", 1, 1).due(0, "judged").types(";0").due(-1, "judged").due(1, "state", 1, 0);
        later.types(";").due(0, "judged").due(0, "state", 1, 0).types("0").due(-1, "judged").due(5, "state", 1, 0);
    }

    private static void andAnothers() {
        for (int p = 0; p < 6; p++) {
            for (int owner = 0; owner < 6; owner++) {
                Village x = village(Texts.deeds(1, owner), p, 0);
                x.due(p == owner ? 0 : -1, "judged").due(p == owner ? 1 : 0, "state", 1, 0);
                x.due(p == owner ? 63 : 63 - (1 << p), "state", 1, 1);
            }
        }
    }

    private static void theUndoingIsAheadOfIt() {
        village("0", 1, 12).due(0, "judged").due(63, "state", 1, 1);
        village("0", 1, 13, 2, 0).due(0, "judged").due(1, "holds", 1).due(0, "state", 2, 0);
        village("0", 1, 0, 2, 12).due(-1, "judged").due(1, "state", 2, 0);
        village("0", 1, 0, 2, 13).due(1, "judged").due(0, "state", 2, 0).due(61, "state", 2, 1);
        village("0", 1, 0, 2, 14, 3, 0).due(1, "judged").due(1, "holds", 2).due(0, "state", 3, 0);
        village("0", 1, 0, 2, 23).due(1, "judged").due(0, "state", 2, 0);
    }

    private static void theUndoingWasByTheLaw() {
        village("0", 0, 0, 1, 12).due(2, "count", 3).due(63, "state", 2, 1).due(1, "state", 2, 0);
        village("0", 1, 1, 2, 12, 3, 13).due(3, "count", 3).due(0, "count", 4).due(1, "state", 3, 0);
        village("0", 1, 0, 2, 12, 2, 0, 3, 14).due(2, "judged").due(2, "count", 3).due(0, "holds", 3);
    }

    private static void theUndoingIsAnothers() {
        village("0", 1, 0, 1, 12).due(1, "judged").due(0, "state", 2, 0).due(1, "holds", 0);
        village("0", 1, 0, 0, 12).due(-1, "judged").due(1, "state", 2, 0).due(0, "holds", 0);
    }

    private static void againstTheLawDoesNothing() {
        Village x = village("0;1;2", 0, 0, 3, 12, 4, 3, 5, 23);
        x.due(4, "count", 3).due(0, "count", 4).due(3, "count", 5).due(63, "state", 4, 1);
        for (int u = 0; u < 4; u++) {
            x.due(0, "holds", u).due(0, "by", u).due(7, "without", u, 0).due(-1, "without", u, 1);
        }
        x.due(-1, "root", 0).due(7, "safe", 0).due(0, "fewest", 7, 0, 0, 0);
        x.due(5, "undoes", 0, 1).due(1, "holds", 4).due(5, "state", 5, 0);
    }

    private static void fellMayBeUndoneToo() {
        village("0;1a", 5, 0, 4, 1).due(-1, "judged").due(0, "state", 2, 0).due(15, "state", 2, 1);
        village("0", 5, 0, 4, 0).due(-1, "judged").due(2, "count", 4).due(0, "by", 1);
        village("0", 5, 0, 4, 12, 3, 12).due(-1, "judged").due(0, "holds", 0).due(1, "holds", 2).due(0, "by", 2);
        village("0", 5, 0, 4, 12, 3, 13, 2, 13).due(-1, "judged").due(1, "holds", 0).due(0, "holds", 1);
    }

    private static void judgedOrNone() {
        village("").due(-1, "judged");
        village("0").due(-1, "judged").due(1, "undoes", 1, 0).due(-1, "judged").due(2, "undoes", 1, 0);
        village("0", 1, 0, 1, 0).due(1, "judged").due(1, "undo").due(-1, "judged").due(0, "undo").due(-1, "judged");
        village("0", 1, 0).due(-1, "judged").due(1, "wipe").due(0, "judged").types("0").due(-1, "judged");
    }

    private static void theFirstThatIs() {
        village(Texts.deeds(6, 0), 0, 0).due(0, "judged");
        Village six = village("0;1", 0, 1, 1, 0, 2, 0, 3, 0, 4, 0, 5, 0).due(-1, "judged").due(0, "state", 6, 1);
        six.due(7, "undoes", 0, 1).due(6, "judged").due(8, "undoes", 1, 0).due(6, "judged").due(2, "count", 3);
        six.due(7, "undo").due(6, "undo").due(-1, "judged");
        village("0", 1, 0, 1, 0, 0, 0).due(1, "judged").due(2, "count", 3);
        village("0").fills(12).due(0, "judged").due(12, "count", 3);
    }

    private static void anUndoingMore() {
        Village x = village("0");
        int[] noPerson = {-1, 6, 7, LEAST, MOST};
        int[] noThing = {-1, 24, 25, LEAST, MOST};
        for (int i = 0; i < noPerson.length; i++) {
            x.due(-2, "undoes", noPerson[i], 0).due(-2, "undoes", noPerson[i], 23);
            x.due(-2, "undoes", 0, noThing[i]).due(-2, "undoes", 5, noThing[i]).due(-2, "undoes", 6, noThing[i]);
        }
        x.due(0, "count", 2).due(-3, "undo");
        x.due(1, "undoes", 0, 0).due(2, "undoes", 5, 0).due(3, "undoes", 0, 23).due(4, "undoes", 5, 23);
        x.fills(8).due(12, "count", 2).due(-4, "undoes", 0, 0).due(-4, "undoes", 5, 23);
        for (int i = 0; i < noPerson.length; i++) {
            x.due(-2, "undoes", noPerson[i], 0).due(-2, "undoes", 0, noThing[i]);
        }
        x.due(12, "count", 2);
    }

    private static void asManyAsAreWhole() {
        int[][] cases = {{0, 0}, {1, 0}, {2, 1}, {3, 1}, {4, 2}, {23, 11}, {24, 12}};
        for (int[] one : cases) {
            for (int form = 0; form < 3; form++) {
                Village x = village("").due(one[0], "sheet", 1, form, one[0]).due(one[1], "read", 1);
                x.due(one[1], "count", 2).due(0, "count", 8).due(one[0], "lose", 1);
            }
        }
        village("0").sheet(0, 0, 1, 0, 2).due(1, "read", 0).due(-1, "judged").due(-2, "holds", 1);
    }

    private static void asLongAsEachMayBe() {
        int[][] bad = {{-1, 0}, {6, 0}, {0, -1}, {0, 24}, {6, 24}, {-1, -1}, {MOST, 0}, {0, LEAST}};
        for (int[] pair : bad) {
            village("").sheet(3, 2, pair[0], pair[1], 1, 1).due(0, "read", 3).due(0, "count", 2);
            village("").sheet(3, 2, 0, 23, pair[0], pair[1], 1, 1).due(1, "read", 3).due(1, "count", 2);
        }
        village("").sheet(3, 2, 0, 0, 5, 23, 5, 0, 0, 23).due(4, "read", 3).due(4, "count", 2);
        village("0").sheet(3, 0, 256 + 1, 0, 250, 0).due(1, "read", 3).due(0, "state", 1, 0).due(-1, "judged");
        village("0").sheet(3, 1, 65536 + 1, 65536, 65535, 0).due(1, "read", 3).due(0, "state", 1, 0);
        village("0").sheet(3, 2, 256 + 1, 0).due(0, "read", 3).due(0, "count", 2);
    }

    private static void asLongAsThereIsRoom() {
        for (int told = 0; told <= 12; told++) {
            Village x = village("").fills(told).due(60, "sheet", 0, 1, 60).due(12 - told, "read", 0);
            x.due(12, "count", 2).due(0, "read", 0).due(12, "count", 2).due(0, "count", 8);
        }
        Village x = village("0").fills(11).sheet(0, 2, 1, 0, 2, 12, 3, 0).due(1, "read", 0).due(1, "holds", 11);
        x.due(0, "state", 12, 0).due(61, "state", 12, 1);
        village("").fills(12).due(-2, "read", -1).due(-2, "read", 4).due(-11, "read", 0);
    }

    private static void readRefuses() {
        Village x = village("");
        int[] noSheet = {-1, 4, LEAST, MOST};
        for (int s : noSheet) {
            x.due(-2, "read", s).due(0, "count", 8);
        }
        for (int s = 0; s < 4; s++) {
            x.due(-11, "read", s).due(1, "count", 8).due(0, "count", 2);
            x.sheet(s, 0, 0, 0).due(1, "read", s).due(2, "lose", s).due(-11, "read", s);
            x.due(0, "undo");
        }
    }

    private static void undoTheLast() {
        Village x = village("0;1", 5, 0, 4, 1, 3, 12).due(1, "state", 3, 0);
        x.due(2, "undo").due(0, "state", 2, 0).due(-2, "state", 3, 0).due(-2, "holds", 2).due(-2, "by", 2);
        x.due(1, "undo").due(2, "state", 1, 0).due(31, "state", 1, 1).due(0, "undo").due(3, "state", 0, 0);
        x.due(-3, "undo").due(-3, "undo").due(0, "count", 2).due(1, "undoes", 5, 1).due(1, "state", 1, 0);
        Village full = village("").fills(12);
        for (int left = 11; left >= 0; left--) {
            full.due(left, "undo").due(left, "count", 2);
        }
        full.due(-3, "undo").due(0, "count", 8);
    }

    // ---- what stands

    private static void holdsInAChain() {
        int[] chain = {0, 0, 1, 12, 2, 13, 3, 14, 4, 15, 5, 16};
        for (int many = 1; many <= 6; many++) {
            Village x = village("5", Arrays.copyOf(chain, 2 * many));
            for (int u = 0; u < many; u++) {
                x.due((many - u) % 2, "holds", u);
            }
            x.due(many % 2 == 0 ? 1 : 0, "state", many, 0).due((many + 1) / 2, "count", 4).due(-1, "judged");
        }
        village("5", 0, 0, 1, 12, 2, 12, 3, 13).due(0, "holds", 0).due(0, "holds", 1).due(1, "holds", 2);
        village("5", 0, 0, 1, 12, 2, 12, 3, 13, 4, 14).due(1, "holds", 0).due(0, "state", 5, 0);
    }

    private static void holdsOrBad() {
        Village x = village("0", 1, 0, 0, 0).due(1, "holds", 0).due(0, "holds", 1);
        int[] noUndoing = {-1, 2, 11, 12, LEAST, MOST};
        for (int u : noUndoing) {
            x.due(-2, "holds", u);
        }
        village("0").due(-2, "holds", 0);
        village("0").fills(12).due(0, "holds", 11).due(-2, "holds", 12);
    }

    private static void fellInAChain() {
        String chain = "0;0a;0b;0c;0d;0e;0f;0g;0h;0i;0j;0k";
        village(chain, 1, 0).due(0, "state", 1, 0).due(0, "root", 11).due(4095, "by", 0);
        village(chain, 1, 11).due(2047, "state", 1, 0).due(11, "root", 11).due(-1, "root", 10);
        for (int own = 1; own < 12; own++) {
            char letter = (char) ('a' + own - 1);
            String broken = chain.replace("0" + letter, "0" + letter + "!");
            village(broken, 1, 0).due(4095 & -(1 << own), "state", 1, 0).due(-1, "root", own).due(0, "root", own - 1);
            village(broken, 1, own).due((1 << own) - 1, "state", 1, 0).due(own, "root", 11);
        }
        village(chain.replaceFirst("0", "0!"), 1, 0).due(0, "state", 1, 0);
        String three = Texts.ahead(11) + "0ijk";
        village(three, 1, 8).due(4095 - 256 - 2048, "state", 1, 0);
        village(three, 1, 9).due(4095 - 512 - 2048, "state", 1, 0);
        village(three, 1, 10).due(1023, "state", 1, 0).due(10, "root", 11);
        village(three, 1, 7).due(4095 - 128, "state", 1, 0);
    }

    private static void behindTheFirst() {
        Village x = village("0;1;2", 3, 0, 4, 1, 0, 0, 5, 12);
        int[] stand = {7, 6, 4, 4, 5};
        int[] still = {63, 55, 39, 39, 7};
        for (int k = 0; k <= 4; k++) {
            x.due(stand[k], "state", k, 0).due(still[k], "state", k, 1);
        }
        int[] noNumber = {-1, 5, 12, 13, LEAST, MOST};
        for (int k : noNumber) {
            x.due(-2, "state", k, 0).due(-2, "state", k, 1);
        }
        int[] noWhat = {-1, 2, 3, LEAST, MOST};
        for (int what : noWhat) {
            x.due(-2, "state", 0, what).due(-2, "state", 4, what);
        }
        village("").due(0, "state", 0, 0).due(63, "state", 0, 1).due(-2, "state", 1, 0);
        village(Texts.TWELVE).fills(12).due(4095, "state", 12, 0).due(63, "state", 12, 1).due(-2, "state", 13, 0);
        village("0;1", 0, 1, 1, 0, 2, 0, 3, 0, 4, 0, 5, 0).due(32, "state", 5, 1).due(0, "state", 6, 1);
    }

    private static void rootIsTheLeast() {
        village("0;1a", 5, 1, 4, 0).due(0, "root", 0).due(0, "root", 1);
        village("0;1a!", 5, 1, 4, 0).due(0, "root", 0).due(1, "root", 1);
        village("0;1;2b", 5, 0, 4, 1).due(0, "root", 0).due(1, "root", 1).due(1, "root", 2);
        village("0;1;2ab", 5, 1, 4, 0).due(0, "root", 2);
        village("0;1a!;2b", 5, 0, 4, 1).due(1, "root", 2);
        village("0;1a!;2ab", 5, 1, 4, 0).due(0, "root", 2);
        village(Texts.ahead(11) + "0a", 1, 0).due(0, "root", 11).due(-1, "root", 10);
    }

    private static void rootOfItselfOrNone() {
        village("0;1;2", 5, 2).due(-1, "root", 0).due(-1, "root", 1).due(2, "root", 2);
        village("0;1a", 5, 0, 4, 12).due(-1, "root", 0).due(-1, "root", 1);
        village("0;1a", 0, 0).due(-1, "root", 0).due(-1, "root", 1);
        village(Texts.TWELVE, 1, 11).due(11, "root", 11).due(-1, "root", 0);
    }

    private static void rootOrBad() {
        Village x = village("0;1", 5, 0);
        int[] noDeed = {-1, 2, 11, 12, LEAST, MOST};
        for (int deed : noDeed) {
            x.due(-2, "root", deed);
        }
        x.due(0, "root", 0).due(-1, "root", 1);
        village("").due(-2, "root", 0).due(-2, "root", -1);
        village("0;").due(-2, "root", 0);
        village(Texts.TWELVE).due(-1, "root", 11).due(-2, "root", 12);
    }

    private static void byButNotBoth() {
        Village x = village("0;1a;2", 5, 0, 4, 0, 3, 12, 2, 13, 1, 2).due(3, "by", 0).due(0, "by", 1);
        x.due(0, "by", 2).due(3, "by", 3).due(4, "by", 4);
        village(Texts.TWELVE).fills(11).due(12, "undoes", 1, 11).due(2048, "by", 11).due(0, "by", 10);
        village("0", 0, 0).due(0, "by", 0);
    }

    private static void byOrBad() {
        Village x = village("0", 5, 0, 4, 12).due(1, "by", 0).due(1, "by", 1);
        int[] noUndoing = {-1, 2, 11, 12, LEAST, MOST};
        for (int u : noUndoing) {
            x.due(-2, "by", u);
        }
        village("0").due(-2, "by", 0);
        village("").fills(12).due(0, "by", 11).due(-2, "by", 12);
    }

    private static void numbersAsTheyAre() {
        Village x = village("0;1;2", 3, 0, 4, 12, 5, 13);
        x.due(6, "state", 3, 0).due(7, "without", 0, 0).due(6, "without", 1, 0).due(7, "without", 2, 0);
        x.due(0, "without", 0, 1).due(-1, "without", 1, 1).due(0, "without", 2, 1);
        Village again = village("0;1", 3, 0, 3, 1, 4, 13).due(2, "state", 3, 0);
        again.due(3, "without", 0, 0).due(0, "without", 0, 1).due(2, "without", 1, 0).due(2, "without", 2, 0);
        village("0;0", 3, 0, 3, 1).due(1, "without", 0, 0).due(0, "without", 0, 1).due(2, "without", 1, 0);
        Village full = village(Texts.TWELVE).fills(11).due(12, "undoes", 1, 11).due(2047, "state", 12, 0);
        full.due(4095, "without", 11, 0).due(11, "without", 11, 1).due(2047, "without", 0, 0);
    }

    private static void firstSeenOrNone() {
        village("0;1;2", 5, 2).due(2, "without", 0, 1);
        village("0;1;2a", 5, 0).due(0, "without", 0, 1).due(7, "without", 0, 0);
        village("0;1;2", 5, 1, 5, 0).due(6, "without", 0, 0).due(0, "without", 0, 1);
        village("0", 5, 0, 4, 0).due(-1, "without", 0, 1).due(-1, "without", 1, 1);
        village("0", 0, 0).due(-1, "without", 0, 1).due(1, "without", 0, 0);
    }

    private static void withoutOrBad() {
        Village x = village("0", 5, 0, 4, 12);
        int[] noUndoing = {-1, 2, 11, 12, LEAST, MOST};
        for (int u : noUndoing) {
            x.due(-2, "without", u, 0).due(-2, "without", u, 1);
        }
        int[] noWhat = {-1, 2, 3, LEAST, MOST};
        for (int what : noWhat) {
            x.due(-2, "without", 0, what).due(-2, "without", 1, what);
        }
        x.due(1, "without", 0, 0).due(0, "without", 1, 0);
        village("0").due(-2, "without", 0, 0).due(-2, "without", 0, 1);
    }

    public static void main(String[] args) {
        DOC.says("UNDOINGS, 12 at most (0 on)", UndoingsBoundaryTest::twelveUndoings);
        DOC.says("a PERSON undoes a THING (0 to 11 a DEED, 12 to 23 an UNDOING, less 12)",
            UndoingsBoundaryTest::thingsByNumber);
        DOC.says("the PERSON did not undo anything by the LAW ahead", UndoingsBoundaryTest::notAnythingAheadByTheLaw);
        DOC.says("the DEED is there", UndoingsBoundaryTest::theDeedIsThere);
        DOC.says("the DEED is there, and another's", UndoingsBoundaryTest::andAnothers);
        DOC.says("the UNDOING is ahead of it", UndoingsBoundaryTest::theUndoingIsAheadOfIt);
        DOC.says("was by the LAW", UndoingsBoundaryTest::theUndoingWasByTheLaw);
        DOC.says("was by the LAW, and another's", UndoingsBoundaryTest::theUndoingIsAnothers);
        DOC.says("What is against the LAW does nothing", UndoingsBoundaryTest::againstTheLawDoesNothing);
        DOC.says("JUDGED: the first UNDOING that is; NONE.", UndoingsBoundaryTest::theFirstThatIs);
        DOC.says("JUDGED; NONE.", UndoingsBoundaryTest::judgedOrNone);
        DOC.says("(A THING that does not stand any more may be undone, too.)",
            UndoingsBoundaryTest::fellMayBeUndoneToo);
        DOC.says("An UNDOING more: how many. BAD; FULL.", UndoingsBoundaryTest::anUndoingMore);
        DOC.says("two for each (PERSON, THING), as many as are whole", UndoingsBoundaryTest::asManyAsAreWhole);
        DOC.says("as long as each may be", UndoingsBoundaryTest::asLongAsEachMayBe);
        DOC.says("and there is room: how many came", UndoingsBoundaryTest::asLongAsThereIsRoom);
        DOC.says("how many came. BAD; NULL.", UndoingsBoundaryTest::readRefuses);
        DOC.says("The last UNDOING is not told any more: how many are left. NOT: none.",
            UndoingsBoundaryTest::undoTheLast);
        DOC.says("no UNDOING that HOLDS undoes it", UndoingsBoundaryTest::holdsInAChain);
        DOC.says("Whether an UNDOING HOLDS, behind all: 1, 0. BAD.", UndoingsBoundaryTest::holdsOrBad);
        DOC.says("if it was not done for OWN reasons and one of those of which it CAME FELL",
            UndoingsBoundaryTest::fellInAChain);
        DOC.says("Behind k UNDOINGS: DEEDS that STAND (what = 0), PERSONS who may still (1), as bits. BAD.",
            UndoingsBoundaryTest::behindTheFirst);
        DOC.says("the least DEED that an UNDOING that HOLDS undoes, and by which",
            UndoingsBoundaryTest::rootIsTheLeast);
        DOC.says("itself, if it was undone and no lesser one is such; NONE: it STANDS",
            UndoingsBoundaryTest::rootOfItselfOrNone);
        DOC.says("ROOT; NONE. BAD.", UndoingsBoundaryTest::rootOrBad);
        DOC.says("DEEDS that STAND behind those ahead of it or behind it, too, but not both",
            UndoingsBoundaryTest::byButNotBoth);
        DOC.says("BY an UNDOING, as bits. BAD.", UndoingsBoundaryTest::byOrBad);
        DOC.says("(numbers of UNDOINGS as they are: one that undoes it is against the LAW then)",
            UndoingsBoundaryTest::numbersAsTheyAre);
        DOC.says("the least DEED that STANDS then or now, not both; NONE", UndoingsBoundaryTest::firstSeenOrNone);
        DOC.says("WITHOUT one: as bits (what = 0), FIRST SEEN (1; NONE). BAD.", UndoingsBoundaryTest::withoutOrBad);
        DOC.end();
    }
}
