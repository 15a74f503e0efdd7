/** What the document says of the bounds of SEEN, OFTEN and DRAWN: promises 19 to 22. */
public final class SeenDrawnBoundaryTest {
    private static final Sentences DOC = new Sentences("SeenDrawnBoundaryTest");
    private static final int LEAST = Integer.MIN_VALUE;
    private static final int MOST = Integer.MAX_VALUE;
    private static final String TWO_OF_EACH = "0;1;2;3;4;5;0;1;2;3;4;5";

    private static Village village(String deeds, int... undoings) {
        return DOC.village(deeds, undoings);
    }

    // ---- seen

    private static void eightAtMost() {
        Village x = village("0");
        for (int many = 1; many <= 8; many++) {
            x.due(many - 1, "count", 6).due(many, "seen", 0, 1);
        }
        x.due(-4, "seen", 0, 0).due(8, "count", 6).due(1, "often").due(-4, "seen", 11, 1).due(1, "often");
        x.due(8, "forget").due(1, "seen", 0, 0).due(0, "often");
        for (int many = 2; many <= 8; many++) {
            x.due(many, "seen", 0, 0);
        }
        x.due(-4, "seen", 0, 0);
    }

    private static void aDeedStoodOrNot() {
        for (int d = 0; d < 12; d++) {
            village(Texts.TWELVE, 1, d).due(1, "seen", d, 1).due(1, "often");
            village(Texts.TWELVE, 1, d).due(1, "seen", d, 0).due(2, "often");
            village(Texts.TWELVE, 1, d).due(1, "seen", (d + 1) % 12, 1).due(3, "often");
        }
    }

    private static void seenRefuses() {
        Village x = village("0");
        int[] noDeed = {-1, 12, 24, LEAST, MOST};
        int[] no = {-1, 2, LEAST, MOST, 256};
        for (int i = 0; i < no.length; i++) {
            x.due(-2, "seen", noDeed[i], 0).due(-2, "seen", noDeed[i], 1).due(-2, "seen", noDeed[i], 2);
            x.due(-2, "seen", 0, no[i]).due(-2, "seen", 11, no[i]);
        }
        x.due(0, "count", 6).due(1, "often").due(1, "seen", 11, 0);
        for (int many = 2; many <= 8; many++) {
            x.due(many, "seen", 0, 1);
        }
        for (int i = 0; i < no.length; i++) {
            x.due(-2, "seen", noDeed[i], 0).due(-2, "seen", 0, no[i]);
        }
        x.due(-4, "seen", 0, 0).due(8, "count", 6);
    }

    private static void forgetAll() {
        Village x = village("0").due(0, "forget").due(1, "seen", 0, 0).due(0, "often").due(1, "forget");
        x.due(0, "forget").due(0, "count", 6).due(1, "often").due(1, "seen", 0, 1).due(1, "often");
        x.due(2, "seen", 0, 0).due(0, "often").due(2, "forget").due(1, "often");
        for (int many = 1; many <= 8; many++) {
            x.due(many, "seen", 11, 1);
        }
        x.due(0, "often").due(8, "forget").due(1, "often").due(0, "forget");
    }

    // ---- often

    private static void fromNoneToAll() {
        village("").due(1, "often");
        for (int told = 0; told <= 12; told++) {
            village("").fills(told).due((1 << told + 1) - 1, "often");
            Village stood = village("0").fills(told).due(1, "seen", 0, 1).due((1 << told + 1) - 1, "often");
            stood.due(2, "seen", 0, 0).due(0, "often");
        }
        Village x = village("0").fills(11).due(12, "undoes", 1, 0).due(1, "seen", 0, 0).due(4096, "often");
        x.due(1, "forget").due(1, "seen", 0, 1).due(4095, "often").due(11, "undo").due(4095, "often");
        village("0", 1, 0, 2, 12, 3, 0).due(1, "seen", 0, 1).due(5, "often").due(1, "forget").due(1, "seen", 0, 0)
            .due(10, "often");
    }

    private static void oftenAsBits() {
        village("").due(1, "often").fills(12).due(8191, "often");
        // Eight that agree, and eight of which one does not.
        Village x = village(Texts.TWELVE, 1, 0, 2, 12);
        for (int d = 0; d < 8; d++) {
            x.due(d + 1, "seen", d, 1);
        }
        x.due(-4, "seen", 0, 0).due(5, "often").due(8, "forget").due(7, "often");
        for (int d = 0; d < 7; d++) {
            x.due(d + 1, "seen", d + 4, 1);
        }
        x.due(7, "often").due(8, "seen", 0, 0).due(2, "often");
    }

    private static void oneThatIsNotThere() {
        village("").due(1, "seen", 0, 0).due(1, "often").due(2, "seen", 0, 1).due(0, "often");
        village("0").due(1, "seen", 1, 0).due(2, "seen", 11, 0).due(1, "often").due(3, "seen", 1, 1).due(0, "often");
        village(Texts.deeds(11, 0)).due(1, "seen", 10, 1).due(1, "often").due(2, "seen", 11, 1).due(0, "often");
        Village later = village("0").due(1, "seen", 1, 1).due(0, "often").types(";0").due(1, "often");
        later.types(";").due(0, "often").due(4, "wipe").due(0, "often").due(1, "forget").due(1, "often");
        village("0;").due(1, "seen", 0, 0).due(1, "often");
    }

    // ---- drawn: what is due was reckoned apart, by the lots as told

    private static void soManyMore() {
        Village x = village(TWO_OF_EACH);
        x.due(4095, "drawn", 0, 0, 0).due(0, "drawn", 0, 0, 1);
        x.due(3839, "drawn", 0, 1, 0).due(1, "drawn", 0, 1, 1);
        x.due(3775, "drawn", 0, 2, 0).due(2, "drawn", 0, 2, 1);
        x.due(1083, "drawn", 0, 6, 0).due(6, "drawn", 0, 6, 1);
        x.due(0, "count", 2).due(63, "state", 0, 1).due(1083, "drawn", 0, 6, 0);
        village(TWO_OF_EACH, 5, 0).due(4094, "drawn", 1, 0, 0).due(0, "drawn", 1, 0, 1);
    }

    private static void drawnRefuses() {
        Village x = village(TWO_OF_EACH);
        int[] no = {-1, 7, 8, LEAST, MOST};
        int[] noWhat = {-1, 2, 3, LEAST, MOST};
        for (int i = 0; i < no.length; i++) {
            x.due(-2, "drawn", 0, no[i], 0).due(-2, "drawn", 0, no[i], 1).due(-2, "drawn", MOST, no[i], 2);
            x.due(-2, "drawn", 0, 0, noWhat[i]).due(-2, "drawn", 0, 6, noWhat[i]);
        }
        x.due(0, "count", 8).due(4095, "drawn", LEAST, 0, 0).due(4095, "drawn", MOST, 0, 0);
        village("").due(-2, "drawn", 0, 7, 0).due(-2, "drawn", 0, 0, 2);
    }

    private static void anySeed() {
        int[] seeds = {1, -1, MOST, LEAST, 7, 65535, 65536, 12345};
        int[] one = {3967, 2047, 3839, 3071, 3839, 3583, 2047, 3967};
        int[] two = {3966, 1983, 3327, 2815, 3831, 3579, 1535, 3455};
        int[] six = {876, 1587, 2261, 760, 2613, 235, 126, 3123};
        Village x = village(TWO_OF_EACH);
        for (int i = 0; i < seeds.length; i++) {
            x.due(one[i], "drawn", seeds[i], 1, 0).due(two[i], "drawn", seeds[i], 2, 0);
            x.due(six[i], "drawn", seeds[i], 6, 0).due(6, "drawn", seeds[i], 6, 1);
        }
    }

    private static void upperBits() {
        // 2147483647 becomes 1043980748: 15929 modulo 6 is 5. Then -1858503659: 37177 modulo 10 is 7, the eighth of
        // the others' deeds; were it a number with a sign, there would be no such.
        village(TWO_OF_EACH).due(4095 - 256, "drawn", MOST, 1, 0);
        // -2147483648 becomes -2147471303: 32768 modulo 6 is 2; then 21468 modulo 10 is 8.
        village(TWO_OF_EACH).due(4095 - 1024, "drawn", LEAST, 1, 0);
        // 0 becomes 12345, of which the upper bits are 0: the least person.
        village("0;1", 5, 2).due(1, "drawn", 0, 1, 0);
    }

    private static void fromTheLeastOn() {
        // 54236 modulo 5 is 1: of those that stand and are not 0's, from the least on, the second.
        village("0;1;2;3;4;5").due(63 - 4, "drawn", 0, 1, 0);
        village("5;4;3;2;1;0").due(63 - 2, "drawn", 0, 1, 0);
        // 0 has undone b, so the least of those who may still is 1; a, c, d, e and f stand and are others': the second.
        village("0;1;2;3;4;5;1", 0, 1).due(127 - 2 - 4, "drawn", 0, 1, 0);
    }

    private static void asLongAsThereAreSuch() {
        village("").due(0, "drawn", 0, 6, 0).due(0, "drawn", 0, 6, 1);
        Village nobody = village("0;1;2", 0, 1, 1, 0, 2, 0, 3, 0, 4, 0, 5, 0);
        nobody.due(4, "drawn", 1, 6, 0).due(0, "drawn", 1, 6, 1).due(4, "drawn", 2, 1, 0);
        village("0", 1, 0).due(0, "drawn", 3, 6, 1).due(0, "drawn", 3, 6, 0);
        Village three = village("0;0;0");
        // By 0 and 7 the first person is 0, who has no deed of another's to undo.
        three.due(7, "drawn", 0, 6, 0).due(0, "drawn", 0, 6, 1).due(0, "drawn", 7, 6, 1);
        // By 1 three others undo all three, so there is none for a fourth.
        three.due(0, "drawn", 1, 6, 0).due(3, "drawn", 1, 6, 1).due(2, "drawn", 1, 2, 1).due(2, "drawn", 1, 2, 0);
        // By 3 the second is 0, by 8 the third.
        three.due(6, "drawn", 3, 6, 0).due(1, "drawn", 3, 6, 1).due(1, "drawn", 8, 6, 0).due(2, "drawn", 8, 6, 1);
    }

    private static void twelveAtMost() {
        for (int told = 0; told <= 12; told++) {
            Village x = village(TWO_OF_EACH).fills(told);
            x.due(Math.min(6, 12 - told), "drawn", 0, 6, 1).due(Math.min(1, 12 - told), "drawn", 0, 1, 1);
            int due = told <= 6 ? 1083 : told == 10 ? 3775 : told == 11 ? 3839 : told == 12 ? 4095 : -1;
            if (due != -1) {
                x.due(due, "drawn", 0, 6, 0);
            }
            x.due(told, "count", 2);
        }
    }

    public static void main(String[] args) {
        DOC.says("SEEN, 8 at most", SeenDrawnBoundaryTest::eightAtMost);
        DOC.says("a DEED (0 to 11) STOOD (1), or not (0)", SeenDrawnBoundaryTest::aDeedStoodOrNot);
        DOC.says("SEEN more: how many. BAD; FULL.", SeenDrawnBoundaryTest::seenRefuses);
        DOC.says("All SEEN are forgotten: how many.", SeenDrawnBoundaryTest::forgetAll);
        DOC.says("numbers k of UNDOINGS (0 to all)", SeenDrawnBoundaryTest::fromNoneToAll);
        DOC.says("OFTEN, as bits.", SeenDrawnBoundaryTest::oftenAsBits);
        DOC.says("(one of a DEED that is not there: it did not STAND)", SeenDrawnBoundaryTest::oneThatIsNotThere);
        DOC.says("DRAWN by a SEED: n (0 to 6) more", SeenDrawnBoundaryTest::soManyMore);
        DOC.says("DRAWN. BAD.", SeenDrawnBoundaryTest::drawnRefuses);
        DOC.says("as ints that wrap", SeenDrawnBoundaryTest::anySeed);
        DOC.says("its upper 16 bits as a number from 0 on, modulo m", SeenDrawnBoundaryTest::upperBits);
        DOC.says("(from the least on), the DEED by a LOT of those of others that STAND",
            SeenDrawnBoundaryTest::fromTheLeastOn);
        DOC.says("as long as there are such", SeenDrawnBoundaryTest::asLongAsThereAreSuch);
        DOC.says("and there are 12 at most: which STAND then (what = 0), how many were done (1)",
            SeenDrawnBoundaryTest::twelveAtMost);
        DOC.end();
    }
}
