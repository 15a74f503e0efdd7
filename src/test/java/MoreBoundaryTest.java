/** What the document says of the bounds of more undoings, and of WORTH: promises 9 and 16 to 18. */
public final class MoreBoundaryTest {
    private static final Sentences DOC = new Sentences("MoreBoundaryTest");
    private static final int LEAST = Integer.MIN_VALUE;
    private static final int MOST = Integer.MAX_VALUE;

    private static Village village(String deeds, int... undoings) {
        return DOC.village(deeds, undoings);
    }

    private static Village worths(Village x, int person, int... worths) {
        for (int d = 0; d < worths.length; d++) {
            x.answer("worth", person, d, worths[d]);
        }
        return x;
    }

    // ---- worth

    private static void worthBounds() {
        for (int p = 0; p < 6; p++) {
            Village x = village("");
            for (int d = 0; d < 12; d++) {
                x.due(0, "worth", p, d, -9).due(-9, "worth", p, d, 9).due(9, "worth", p, d, d - 6);
            }
            for (int d = 0; d < 12; d++) {
                x.due(d - 6, "worth", p, d, 0).due(0, "worth", (p + 1) % 6, d, 0);
            }
        }
        Village x = village("").due(0, "worth", 3, 4, 5);
        for (int v = -9; v <= 9; v++) {
            x.due(v == -9 ? 5 : v - 1, "worth", 3, 4, v);
        }
    }

    private static void worthRefuses() {
        Village x = village("").due(0, "worth", 0, 0, 7).due(0, "worth", 5, 11, -7);
        int[] noPerson = {-1, 6, LEAST, MOST};
        int[] noDeed = {-1, 12, LEAST, MOST};
        int[] noWorth = {-10, 10, LEAST, MOST, 256};
        for (int i = 0; i < noPerson.length; i++) {
            x.due(-1002, "worth", noPerson[i], 0, 1).due(-1002, "worth", 0, noDeed[i], 1);
            x.due(-1002, "worth", noPerson[i], noDeed[i], 10);
        }
        for (int v : noWorth) {
            x.due(-1002, "worth", 0, 0, v).due(-1002, "worth", 5, 11, v).due(-1002, "worth", 6, 0, v);
        }
        x.due(7, "worth", 0, 0, 0).due(-7, "worth", 5, 11, 0).due(0, "count", 8);
    }

    private static void worthThereOrNot() {
        Village x = worths(village("4"), 0, 3, 9, 9, 9, 9, 9, 9, 9, 9, 9, 9, -9);
        x.due(3, "last", 0, 1, 0).types(";4").due(12, "last", 0, 1, 0).types(";").due(0, "last", 0, 1, 0);
        x.due(4, "wipe").due(0, "last", 0, 1, 0).due(9, "worth", 0, 1, 9).due(-9, "worth", 0, 11, -9);
        x.types(Texts.deeds(12, 0)).due(3 + 10 * 9 - 9, "last", 0, 1, 0);
    }

    private static void worthIfItStands() {
        Village x = worths(village("4;4a;4!", 5, 0), 0, 9, 9, 1);
        worths(x, 4, -9, -9, -1);
        x.fills(11).due(1, "last", 0, 4, 0).due(-1, "last", 0, 4, 1).due(12, "count", 2);
    }

    // ---- as the law lets be

    private static void noMoreThanTwelve() {
        for (int told = 0; told <= 12; told++) {
            Village x = village("0;1").fills(told);
            x.due(told <= 10 ? 2 : -1, "fewest", 0, 3, 2, 0).due(told <= 10 ? 1 : -1, "fewest", 0, 3, 2, 1);
            x.due(told <= 11 ? 1 : -1, "fewest", 0, 1, 2, 0).due(told <= 11 ? 24 : -1, "fewest", 0, 1, 2, 1);
            x.due(told <= 11 ? 1 : -1, "fewest", 0, 1, 1, 0).due(0, "fewest", 3, 0, 2, 0);
            x.due(3, "safe", 0).due(told <= 11 ? 0 : 3, "safe", 1).due(told <= 11 ? 0 : 3, "safe", 2);
            worths(worths(x, 2, -1, -1), 3, -1, -1);
            // With room for one alone, it is like for 2 who of them undoes.
            x.due(told <= 10 ? 0 : -1, "last", 2, 3, 2).due(told <= 10 ? 1 : told == 11 ? 0 : -1, "last", 2, 3, 3);
            x.due(told <= 10 ? 0 : told == 11 ? -1 : -2, "last", 2, 3, 0);
        }
    }

    private static void numberedOn() {
        for (int told = 0; told <= 12; told++) {
            Village x = worths(worths(village("4;4").fills(told), 0, -9, 1), 1, 3, -2);
            x.due(told <= 11 ? 0 : -1, "last", 0, 1, 2).due(told <= 10 ? 12 + told : -1, "last", 0, 1, 3);
            x.due(told == 11 ? 1 : -8, "last", 0, 1, 0).due(told == 11 ? -2 : 1, "last", 0, 1, 1);
        }
    }

    private static void asTheLawLets() {
        Village nobody = village("0;1;2", 0, 1, 1, 0, 2, 0, 3, 0, 4, 0, 5, 0).due(0, "state", 6, 1);
        nobody.due(-1, "fewest", 0, 4, 2, 0).due(-1, "fewest", 0, 4, 2, 1).due(4, "safe", 1).due(4, "safe", 2);
        worths(worths(nobody, 3, 0, 0, -9), 4, 9, 9, -9);
        nobody.due(-1, "last", 3, 4, 2).due(-1, "last", 3, 4, 3).due(-9, "last", 3, 4, 0).due(-9, "last", 3, 4, 1);
        Village five = village("5;4;4", 0, 1, 1, 1, 2, 1, 3, 1, 4, 12).due(32, "state", 5, 1).due(5, "state", 5, 0);
        five.due(5, "safe", 0).due(1, "safe", 1).due(1, "safe", 2).due(-1, "fewest", 0, 1, 2, 0);
        five.due(5 * 24 + 2, "fewest", 0, 4, 1, 1).due(1, "fewest", 0, 4, 2, 0).due(-1, "fewest", 0, 5, 2, 0);
        Village two = village("0;0;4", 2, 2, 3, 2, 5, 2, 4, 0).due(3, "state", 4, 1).due(2, "state", 4, 0);
        two.due(24 + 1, "fewest", 0, 2, 2, 1).due(15, "fewest", 1, 0, 2, 1).due(0, "safe", 1);
        two.due(2, "fewest", 1, 2, 2, 0).due(15, "fewest", 1, 2, 2, 1).due(-1, "fewest", 1, 2, 1, 0);
        // Three hold c down, and only two may still.
        two.due(-1, "fewest", 4, 0, 2, 0);
        // 0 and 1 may still, but not 0 a deed of its own.
        village("0;0", 2, 0, 3, 0, 4, 0, 5, 0).due(3, "state", 4, 1).due(1, "fewest", 0, 2, 2, 0);
        village("0;0;0", 2, 0, 3, 0, 4, 0, 5, 0).due(-1, "fewest", 0, 6, 2, 0).due(-1, "fewest", 0, 6, 2, 1);
    }

    // ---- fewest

    private static void soManyMoreAtMost() {
        Village x = village("0;1;2");
        x.due(0, "fewest", 7, 0, 0, 0).due(0, "fewest", 7, 0, 2, 0).due(-1, "fewest", 7, 0, 0, 1);
        x.due(-1, "fewest", 0, 1, 0, 0).due(-1, "fewest", 0, 1, 0, 1);
        x.due(1, "fewest", 0, 1, 1, 0).due(24, "fewest", 0, 1, 1, 1).due(1, "fewest", 0, 1, 2, 0);
        x.due(-1, "fewest", 0, 3, 1, 0).due(-1, "fewest", 0, 3, 1, 1);
        x.due(2, "fewest", 0, 3, 2, 0).due(1, "fewest", 0, 3, 2, 1).due(2, "fewest", 4, 3, 2, 0);
        x.due(-1, "fewest", 0, 7, 2, 0).due(-1, "fewest", 0, 7, 2, 1);
        int[] noNumber = {-1, 3, 4, LEAST, MOST};
        for (int n : noNumber) {
            x.due(-2, "fewest", 7, 0, n, 0).due(-2, "fewest", 0, 1, n, 1);
        }
        village("0;1;2", 5, 0).due(1, "fewest", 7, 0, 2, 0).due(12, "fewest", 7, 0, 2, 1)
            .due(-1, "fewest", 7, 0, 0, 0);
        village("0;1;2", 5, 0, 4, 1).due(-1, "fewest", 7, 0, 1, 0).due(2, "fewest", 7, 0, 2, 0)
            .due(12, "fewest", 7, 0, 2, 1);
        village("0;1;2", 5, 0, 4, 1, 3, 2).due(-1, "fewest", 7, 0, 2, 0).due(-1, "fewest", 7, 0, 2, 1);
    }

    private static void theFirstAsANumber() {
        village("1").due(0, "fewest", 0, 1, 1, 1);
        village(Texts.deeds(12, 0)).due(24 + 11, "fewest", 0, 2048, 1, 1);
        Village last = village(Texts.deeds(5, 5), 0, 0, 1, 1, 2, 2, 3, 3).fills(6).due(11, "undoes", 4, 4);
        last.due(32, "state", 11, 1).due(5 * 24 + 22, "fewest", 16, 0, 1, 1).due(142, "fewest", 16, 0, 2, 1);
        last.due(5 * 24 + 12, "fewest", 1, 0, 2, 1).due(-1, "fewest", 3, 0, 2, 1);
    }

    private static void ofLikeOnesTheLeast() {
        village("1;1;1ab").due(0, "fewest", 0, 4, 1, 1);
        village("0;1;1ab").due(1, "fewest", 0, 4, 1, 1);
        village("0;0;1ab").due(2, "fewest", 0, 4, 1, 1);
        village("0;0;0ab").due(24, "fewest", 0, 4, 1, 1);
        // A lesser person goes ahead of a lesser thing.
        village("0", 5, 0, 4, 12).due(13, "fewest", 0, 1, 1, 1);
        village("0", 0, 1, 5, 0, 4, 13).due(14, "fewest", 0, 1, 1, 1);
        village("3;3").due(0, "fewest", 0, 3, 2, 1);
        village("0;3").due(1, "fewest", 0, 3, 2, 1);
        village("0;0").due(24, "fewest", 0, 3, 2, 1);
        village("0;0", 5, 0).due(2, "fewest", 1, 2, 2, 0).due(12, "fewest", 1, 2, 2, 1);
    }

    private static void noneIsNeededOrItCannotBe() {
        Village x = village("0;1a").due(-1, "fewest", 0, 0, 2, 1).due(0, "fewest", 0, 0, 2, 0);
        x.due(-1, "fewest", 3, 0, 2, 1).due(0, "fewest", 3, 0, 2, 0);
        x.due(-1, "fewest", 2, 1, 2, 0).due(-1, "fewest", 2, 1, 2, 1);
        x.due(1, "fewest", 1, 2, 2, 0).due(1, "fewest", 1, 2, 2, 1);
    }

    private static void bitsOfDeedsNotThere() {
        village("").due(0, "fewest", 4095, 0, 0, 0).due(0, "fewest", 0, 4095, 0, 0).due(0, "fewest", 1, 4094, 2, 0);
        for (int many = 1; many < 12; many++) {
            int rest = 4095 & -(1 << many);
            Village x = village(Texts.deeds(many, 0));
            x.due(0, "fewest", 4095, 0, 0, 0).due(0, "fewest", 0, rest, 0, 0).due(0, "fewest", 2047, 2048, 0, 0);
            x.due(1, "fewest", 0, rest + 1, 2, 0).due(24, "fewest", rest, 1, 2, 1);
        }
        village("0;0").due(-1, "fewest", 0, 4095, 1, 0).due(2, "fewest", 0, 4095, 2, 0);
        village(Texts.TWELVE).due(24 + 11, "fewest", 2047, 2048, 1, 1).due(0, "fewest", 4095, 0, 0, 0);
    }

    private static void bitsOrBad() {
        Village x = village("0;1;2");
        int[] noBits = {-1, 4096, 4097, 8191, LEAST, MOST};
        for (int bits : noBits) {
            x.due(-2, "fewest", bits, 0, 0, 0).due(-2, "fewest", 0, bits, 0, 0).due(-2, "fewest", bits, 0, 2, 1);
        }
        for (int d = 0; d < 12; d++) {
            x.due(-2, "fewest", 1 << d, 1 << d, 0, 0).due(-2, "fewest", 4095, 1 << d, 2, 1);
            x.due(-2, "fewest", 1 << d, 4095, 2, 0);
        }
        int[] noWhat = {-1, 2, 3, LEAST, MOST};
        for (int what : noWhat) {
            x.due(-2, "fewest", 7, 0, 0, what).due(-2, "fewest", 0, 7, 2, what);
        }
        village("").due(-2, "fewest", 2048, 2048, 0, 0);
    }

    // ---- safe

    private static void safeFromSoMany() {
        village("").due(0, "safe", 0).due(0, "safe", 1).due(0, "safe", 2);
        village("0;1;2", 5, 2).due(3, "safe", 0).due(0, "safe", 1).due(0, "safe", 2);
        village(Texts.TWELVE).due(4095, "safe", 0).due(0, "safe", 1).due(0, "safe", 2);
        village(Texts.TWELVE).fills(12).due(4095, "safe", 0).due(4095, "safe", 1).due(4095, "safe", 2);
        Village own = village("5;4;4", 0, 1, 1, 1, 2, 1, 3, 1, 4, 12).due(5, "safe", 0).due(1, "safe", 1);
        own.due(1, "safe", 2).fills(7).due(5, "safe", 1).due(5, "safe", 2).due(11, "undo").due(1, "safe", 1);
    }

    private static void safeOrBad() {
        Village x = village("0;1");
        int[] noNumber = {-1, 3, 4, LEAST, MOST};
        for (int n : noNumber) {
            x.due(-2, "safe", n);
        }
    }

    // ---- last

    private static void notTheSame() {
        Village x = village("4");
        for (int a = 0; a < 6; a++) {
            for (int b = 0; b < 6; b++) {
                for (int what = 0; what < 4; what++) {
                    x.due(a == b ? -1002 : what < 2 ? 0 : -1, "last", a, b, what);
                }
            }
        }
    }

    private static void lastRefuses() {
        Village x = village("4");
        int[] noPerson = {-1, 6, LEAST, MOST};
        int[] noWhat = {-1, 4, LEAST, MOST};
        for (int i = 0; i < noPerson.length; i++) {
            x.due(-1002, "last", noPerson[i], 0, 0).due(-1002, "last", 0, noPerson[i], 3);
            x.due(-1002, "last", noPerson[i], noPerson[i], 0).due(-1002, "last", 0, 1, noWhat[i]);
            x.due(-1002, "last", 5, 4, noWhat[i]).due(-1002, "last", 1, 1, noWhat[i]);
        }
        x.due(0, "count", 8);
    }

    private static void asGreatAsCanBe() {
        int[] most = {9, 9, 9, 9, 9, 9, 9, 9, 9, 9, 9, 9};
        int[] least = {-9, -9, -9, -9, -9, -9, -9, -9, -9, -9, -9, -9};
        Village x = worths(worths(village(Texts.TWELVE), 1, most), 2, least);
        x.due(-1, "last", 1, 2, 2).due(0, "last", 1, 2, 3).due(99, "last", 1, 2, 0).due(-99, "last", 1, 2, 1);
        x.due(-1, "last", 2, 1, 2).due(-1, "last", 2, 1, 3).due(-108, "last", 2, 1, 0).due(108, "last", 2, 1, 1);
        x.fills(12).due(108, "last", 1, 2, 0).due(-108, "last", 1, 2, 1).due(-1, "last", 1, 2, 2);
        village("").due(0, "last", 0, 1, 0).due(0, "last", 0, 1, 1).due(-1, "last", 0, 1, 2).due(-1, "last", 0, 1, 3);
    }

    private static void oneThingEachOrNot() {
        Village x = worths(worths(village("4;4", 0, 0), 0, 0, -9), 1, -9, 0);
        x.due(-1, "last", 0, 1, 2).due(-1, "last", 0, 1, 3).due(-9, "last", 0, 1, 0).due(0, "last", 0, 1, 1);
        x.due(-1, "last", 1, 0, 2).due(-1, "last", 1, 0, 3).due(0, "last", 1, 0, 0).due(-9, "last", 1, 0, 1);
        worths(x, 2, 9, -9).due(-1, "last", 0, 2, 2).due(1, "last", 0, 2, 3).due(1, "last", 2, 0, 2);
        // Three of worth -9, but each may one alone: not one's own, either.
        Village three = worths(worths(village("4;0;4"), 0, -9, -9, -9), 4, -9, -9, -9);
        three.due(-9, "last", 0, 4, 0).due(0, "last", 0, 4, 2).due(1, "last", 0, 4, 3);
        three.due(-9, "last", 4, 0, 0).due(1, "last", 4, 0, 2).due(0, "last", 4, 0, 3);
        Village own = worths(worths(village("5;4"), 0, 0, -9), 5, -9, 0);
        own.due(1, "last", 0, 5, 2).due(-1, "last", 0, 5, 3).due(-9, "last", 0, 5, 1).due(0, "last", 0, 5, 0);
    }

    private static void ofLikeOnesNotTo() {
        Village x = worths(worths(village("4"), 0, -2), 1, 1);
        x.due(-1, "last", 0, 1, 2).due(-1, "last", 0, 1, 3).due(-2, "last", 0, 1, 0).due(1, "last", 0, 1, 1);
        village("4;4").due(-1, "last", 0, 1, 2).due(-1, "last", 0, 1, 3);
        worths(village("4;4"), 0, 1, -1).due(1, "last", 0, 1, 2).due(-1, "last", 0, 1, 3);
        worths(village("4;4a"), 0, 1, -1).due(1, "last", 1, 0, 3).due(-1, "last", 1, 0, 2);
        worths(village("4;4a!", 5, 0), 0, 3, 0).due(12, "last", 0, 1, 2);
        worths(village("4;4a", 5, 0), 0, 3, -3).due(-1, "last", 0, 1, 2).due(-1, "last", 1, 0, 3);
    }

    private static void thenTheLeastThing() {
        worths(village("4;4"), 0, -1, -1).due(0, "last", 0, 1, 2).due(0, "last", 1, 0, 3);
        worths(village("4;0;0ab"), 1, 0, 0, -5).due(0, "last", 1, 2, 2).due(0, "last", 2, 1, 3);
        worths(village("4;0;0ab"), 4, 0, 0, -5).due(1, "last", 4, 2, 2).due(1, "last", 2, 4, 3);
        worths(village("4;4", 5, 0), 0, 5, -5).due(1, "last", 0, 1, 2).due(1, "last", 1, 0, 3);
        worths(village("4;4", 5, 0, 3, 1), 0, 1, 1).due(12, "last", 0, 1, 2).due(12, "last", 1, 0, 3);
        worths(village("4;4", 5, 0, 3, 1), 0, 0, 1).due(13, "last", 0, 1, 2).due(13, "last", 1, 0, 3);
        worths(village(Texts.deeds(12, 4)), 0, 0, 0, 0, 0, 0, 0, 0, 0, 0, 0, 0, -1).due(11, "last", 0, 1, 2);
        Village last = worths(village("5").fills(10).due(11, "undoes", 4, 0), 0, 9);
        last.due(22, "last", 0, 1, 2).due(-1, "last", 0, 1, 3).due(9, "last", 0, 1, 0);
        last.due(-1, "last", 1, 0, 2).due(22, "last", 1, 0, 3).due(9, "last", 1, 0, 1);
    }

    public static void main(String[] args) {
        DOC.says("WORTH of a DEED to a PERSON (-9 to 9; 0 at first)", MoreBoundaryTest::worthBounds);
        DOC.says("what it was. BAD: -1002.", MoreBoundaryTest::worthRefuses);
        DOC.says("WORTH (of DEEDS 0 to 11, there or not), as any number", MoreBoundaryTest::worthThereOrNot);
        DOC.says("(-9 to 9; 0 at first), if it STANDS", MoreBoundaryTest::worthIfItStands);
        DOC.says("more than 12 in all cannot be", MoreBoundaryTest::noMoreThanTwelve);
        DOC.says("(numbered on; more than 12", MoreBoundaryTest::numberedOn);
        DOC.says("more of these are such as the LAW lets be", MoreBoundaryTest::asTheLawLets);
        DOC.says("FEWEST: n (0 to 2) more at most", MoreBoundaryTest::soManyMoreAtMost);
        DOC.says("the first of these: 24 times the PERSON and the THING", MoreBoundaryTest::theFirstAsANumber);
        DOC.says("(of like ones the least, then by the second so)", MoreBoundaryTest::ofLikeOnesTheLeast);
        DOC.says("FEWEST: how many (what = 0), the first (1; NONE: none is needed, or it cannot be); NONE.",
            MoreBoundaryTest::noneIsNeededOrItCannotBe);
        DOC.says("(Bits of DEEDS that are not there do not matter.)", MoreBoundaryTest::bitsOfDeedsNotThere);
        DOC.says("BAD (bits 0 to 4095; both of one DEED, too).", MoreBoundaryTest::bitsOrBad);
        DOC.says("DEEDS that STAND, and do after any more, n (0 to 2) at most", MoreBoundaryTest::safeFromSoMany);
        DOC.says("SAFE, as bits. BAD.", MoreBoundaryTest::safeOrBad);
        DOC.says("PERSONS a, then b (not the same)", MoreBoundaryTest::notTheSame);
        DOC.says("LAST, as any number. BAD: -1002.", MoreBoundaryTest::lastRefuses);
        DOC.says("as great as can be", MoreBoundaryTest::asGreatAsCanBe);
        DOC.says("may undo one THING each, or not", MoreBoundaryTest::oneThingEachOrNot);
        DOC.says("(of like ones not to,", MoreBoundaryTest::ofLikeOnesNotTo);
        DOC.says("then the least THING)", MoreBoundaryTest::thenTheLeastThing);
        DOC.end();
    }
}
