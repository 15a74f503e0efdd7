import java.math.BigInteger;
import java.util.ArrayList;
import java.util.List;
import java.util.function.Supplier;

/** What the document says of refusals, of counting all, and of how long an object is used: promises 29 and 30. */
public final class RefusalsBoundaryTest {
    private static final Sentences DOC = new Sentences("RefusalsBoundaryTest");
    private static final int LEAST = Integer.MIN_VALUE;
    private static final int MOST = Integer.MAX_VALUE;

    /** A call that is refused, and how. */
    private record Refused(long how, String call, int... given) { }

    private static Village village(String deeds, int... undoings) {
        return DOC.village(deeds, undoings);
    }

    // ---- villages

    private static Village fresh() {
        return village("");
    }

    private static Village between() {
        Village x = village("0;1a;2b!;3;5a", 5, 0, 4, 12, 0, 0, 3, 1).sheet(0, 0, 1, 2, 3).sheet(1, 1, 300, 4);
        x.sheet(2, 2, 70000);
        for (int d = 0; d < 5; d++) {
            x.answer("worth", d, d, d - 4);
            x.answer("worth", d + 1, d, 4 - d);
        }
        x.answer("seen", 0, 1);
        return x;
    }

    private static Village full() {
        Village x = village(Texts.TWELVE_60, 1, 0, 2, 12, 3, 11, 4, 10).fills(8);
        for (int i = 0; i < 8; i++) {
            x.answer("seen", i, 1);
            x.answer("worth", i % 6, i, i - 4);
        }
        for (int s = 0; s < 4; s++) {
            x.answer("sheet", s, s % 3, 60);
            x.answer("lay", s, s % 3, 59, s + 5);
        }
        return x;
    }

    // ---- refusals

    private static List<Refused> badEverywhere() {
        return List.of(new Refused(-2, "type", -1), new Refused(-2, "type", 256), new Refused(-2, "deed", -1, 0),
            new Refused(-2, "deed", 12, 0), new Refused(-2, "deed", 0, 3), new Refused(-2, "undoes", -1, 0),
            new Refused(-2, "undoes", 6, 0), new Refused(-2, "undoes", 0, -1), new Refused(-2, "undoes", 0, 24),
            new Refused(-2, "read", -1), new Refused(-2, "read", 4), new Refused(-1002, "worth", -1, 0, 1),
            new Refused(-1002, "worth", 6, 0, 1), new Refused(-1002, "worth", 0, -1, 1),
            new Refused(-1002, "worth", 0, 12, 1), new Refused(-1002, "worth", 0, 0, -10),
            new Refused(-1002, "worth", 0, 0, 10), new Refused(-2, "holds", -1), new Refused(-2, "holds", 12),
            new Refused(-2, "state", -1, 0), new Refused(-2, "state", 13, 0), new Refused(-2, "state", 0, 2),
            new Refused(-2, "root", -1), new Refused(-2, "root", 12), new Refused(-2, "by", -1),
            new Refused(-2, "by", 12), new Refused(-2, "without", -1, 0), new Refused(-2, "without", 12, 0),
            new Refused(-2, "without", 0, 2), new Refused(-2, "fewest", 1, 1, 0, 0),
            new Refused(-2, "fewest", 4096, 0, 0, 0), new Refused(-2, "fewest", 0, -1, 0, 0),
            new Refused(-2, "fewest", 0, 1, 3, 0), new Refused(-2, "fewest", 0, 1, 0, 2), new Refused(-2, "safe", -1),
            new Refused(-2, "safe", 3), new Refused(-1002, "last", 0, 0, 0), new Refused(-1002, "last", 6, 0, 0),
            new Refused(-1002, "last", 0, -1, 0), new Refused(-1002, "last", 0, 1, 4), new Refused(-2, "seen", -1, 0),
            new Refused(-2, "seen", 12, 0), new Refused(-2, "seen", 0, 2), new Refused(-2, "drawn", 1, -1, 0),
            new Refused(-2, "drawn", 1, 7, 0), new Refused(-2, "drawn", 1, 0, 2), new Refused(-2, "sheet", -1, 0, 1),
            new Refused(-2, "sheet", 4, 0, 1), new Refused(-2, "sheet", 0, 3, 1), new Refused(-2, "sheet", 0, -1, 1),
            new Refused(-2, "sheet", 0, 0, 61), new Refused(-2, "lose", -1), new Refused(-2, "lose", 4),
            new Refused(-2, "lay", 4, 0, 0, 1), new Refused(-2, "lay", 0, 3, 0, 1), new Refused(LEAST, "get", 4, 0, 0),
            new Refused(LEAST, "get", 0, 3, 0), new Refused(-2, "copy", 4, 0, 0, 0, 0),
            new Refused(-2, "copy", 0, 0, -1, 0, 0), new Refused(-2, "write", -1), new Refused(-2, "write", 4),
            new Refused(-2, "count", -1), new Refused(-2, "count", 9), new Refused(-15, "sheet", 0, 0, -1));
    }

    private static List<Refused> badWhenFresh() {
        return List.of(new Refused(-3, "undo"), new Refused(-2, "deed", 0, 0), new Refused(-2, "holds", 0),
            new Refused(-2, "state", 1, 0), new Refused(-2, "root", 0), new Refused(-2, "by", 0),
            new Refused(-2, "without", 0, 0), new Refused(-11, "read", 0), new Refused(-11, "lose", 3),
            new Refused(-11, "lay", 0, 0, 0, 1), new Refused(LEAST, "get", 0, 0, 0),
            new Refused(-11, "copy", 0, 0, 0, 0, 0), new Refused(-11, "write", 2));
    }

    private static List<Refused> badBetween() {
        return List.of(new Refused(-2, "deed", 5, 0), new Refused(-2, "holds", 4), new Refused(-2, "state", 5, 0),
            new Refused(-2, "root", 5), new Refused(-2, "by", 4), new Refused(-2, "without", 4, 0),
            new Refused(-11, "read", 3), new Refused(-11, "lose", 3), new Refused(-11, "lay", 3, 0, 0, 1),
            new Refused(-13, "lay", 0, 1, 0, 9), new Refused(-12, "lay", 0, 0, 3, 9),
            new Refused(-12, "lay", 1, 1, -1, 9),
            new Refused(LEAST, "get", 3, 0, 0), new Refused(LEAST, "get", 0, 1, 0), new Refused(LEAST, "get", 1, 1, 2),
            new Refused(-11, "copy", 0, 0, 3, 0, 1), new Refused(-14, "copy", 0, 0, 1, 0, 1),
            new Refused(-12, "copy", 0, 0, 0, 1, 3), new Refused(-12, "copy", 0, 2, 0, 0, 2),
            new Refused(-12, "copy", 0, 0, 0, 1, -1), new Refused(-11, "write", 3));
    }

    private static List<Refused> badWhenFull() {
        return List.of(new Refused(-4, "type", '0'), new Refused(-4, "type", ';'), new Refused(-4, "undoes", 5, 1),
            new Refused(-4, "undoes", 0, 0), new Refused(-4, "seen", 0, 0), new Refused(-4, "seen", 11, 1),
            new Refused(-12, "lay", 0, 0, 60, 1), new Refused(-13, "lay", 0, 2, 0, 1),
            new Refused(LEAST, "get", 0, 0, 60), new Refused(-14, "copy", 0, 0, 1, 0, 60),
            new Refused(-12, "copy", 0, 0, 3, 0, 61), new Refused(-12, "copy", 0, 1, 3, 0, 60));
    }

    private static void changesNothing(Supplier<Village> made, List<Refused> refused) {
        Sight before = new Sight(made);
        for (Refused one : refused) {
            Sight behind = new Sight(() -> made.get().due(one.how(), one.call(), one.given()));
            List<String> unlike = behind.unlike(before);
            boolean found = one.how() <= -11 && one.how() >= -15 || one.how() == LEAST;
            if (found) {
                unlike.remove("count(8)");
            }
            DOC.check.isTrue(Village.told(one.call(), one.given()) + " changes nothing, but changed " + unlike,
                unlike.isEmpty());
        }
    }

    private static void refusalsChangeNothing() {
        changesNothing(RefusalsBoundaryTest::fresh, badEverywhere());
        changesNothing(RefusalsBoundaryTest::fresh, badWhenFresh());
        changesNothing(RefusalsBoundaryTest::between, badEverywhere());
        changesNothing(RefusalsBoundaryTest::between, badBetween());
        changesNothing(RefusalsBoundaryTest::full, badEverywhere());
        changesNothing(RefusalsBoundaryTest::full, badWhenFull());
    }

    private static void findingsButTheCount() {
        List<List<Refused>> all = List.of(badEverywhere(), badBetween());
        for (List<Refused> some : all) {
            for (Refused one : some) {
                Village x = between().due(0, "count", 8).due(one.how(), one.call(), one.given());
                boolean found = one.how() <= -11 && one.how() >= -15;
                if (one.how() != LEAST) {
                    x.due(found ? -10 - one.how() : 0, "count", 8);
                }
            }
        }
        between().due(LEAST, "get", 3, 0, 0).due(1, "count", 8);
        between().due(LEAST, "get", 0, 1, 0).due(3, "count", 8);
        between().due(LEAST, "get", 0, 0, 3).due(2, "count", 8);
        between().due(LEAST, "get", 4, 0, 3).due(0, "count", 8).due(LEAST, "get", 0, 3, 3).due(0, "count", 8);
    }

    private static void theFirstThatFits() {
        full().due(-2, "type", 256).due(-4, "type", 255).due(-2, "undoes", 6, 0).due(-4, "undoes", 5, 0)
            .due(-2, "undoes", 0, 24).due(-2, "seen", 12, 0).due(-4, "seen", 11, 0).due(-2, "seen", 0, 2);
        fresh().due(-2, "read", 4).due(-11, "read", 3).due(-2, "sheet", 4, 0, -1).due(-2, "sheet", 0, 3, -1)
            .due(-15, "sheet", 3, 2, -1);
        between().due(-2, "lay", 4, 0, -1, 0).due(-2, "lay", 3, 3, -1, 0).due(-11, "lay", 3, 2, -1, 0)
            .due(-13, "lay", 2, 1, -1, 0).due(-12, "lay", 2, 2, -1, 0);
        between().due(-2, "copy", 3, -1, 4, 0, 1).due(-11, "copy", 3, -1, 0, 0, 1).due(-11, "copy", 0, -1, 3, 0, 1)
            .due(-14, "copy", 0, -1, 1, 0, 1).due(-12, "copy", 0, -1, 0, 0, 1);
        between().due(LEAST, "get", 3, 2, -1).due(1, "count", 8).due(LEAST, "get", 2, 1, -1).due(3, "count", 8)
            .due(LEAST, "get", 2, 2, -1).due(2, "count", 8);
    }

    private static void anyNumber() {
        Village x = between();
        x.due(-1002, "worth", 6, 0, 0).due(-1002, "worth", 0, 12, 0).due(-1002, "worth", 0, 0, 10);
        x.due(-1002, "last", 0, 6, 0).due(-1002, "last", 0, 1, 4).due(-1002, "last", 3, 3, 3);
        // What is told there as an answer may be as low as a refusal elsewhere.
        x.due(-4, "worth", 0, 0, -2).due(-2, "worth", 0, 0, -9).due(-9, "worth", 0, 0, 0);
    }

    private static void questionsChangeNothing() {
        List<Supplier<Village>> all = List.of(RefusalsBoundaryTest::fresh, RefusalsBoundaryTest::between,
            RefusalsBoundaryTest::full);
        for (Supplier<Village> made : all) {
            List<String> unlike = new Sight(() -> asked(made.get())).unlike(new Sight(made));
            DOC.check.isTrue("a question changed " + unlike, unlike.isEmpty());
        }
    }

    private static Village asked(Village x) {
        for (int i = 0; i < 4; i++) {
            for (String call : List.of("root", "holds", "by", "safe", "count")) {
                x.answer(call, i);
            }
            for (String call : List.of("deed", "state", "without")) {
                x.answer(call, i, i % 2);
            }
            x.answer("fewest", 0, 1 << i, 2, i % 2);
            x.answer("fewest", 4095, 0, 2, i % 2);
            x.answer("last", 5, i, i);
            x.answer("last", i, 5, i);
            x.answer("drawn", i, 6, i % 2);
        }
        for (String call : List.of("fault", "judged", "often", "digest")) {
            x.answer(call);
        }
        return x;
    }

    // ---- counting all

    private static void countFromNoneToFull() {
        int[] none = {0, 0, 0, 0, 0, 0, 0, 0, 0};
        int[] most = {12, 60, 12, 8, 3, 10, 8, 10, 0};
        Village fresh = fresh();
        Village full = full();
        for (int what = 0; what <= 8; what++) {
            fresh.due(none[what], "count", what);
            full.due(most[what], "count", what);
        }
        int[] noWhat = {-1, 9, 10, LEAST, MOST};
        for (int what : noWhat) {
            fresh.due(-2, "count", what);
            full.due(-2, "count", what);
        }
        village(Texts.TWELVE).fills(12).due(12, "count", 3).due(0, "count", 4).due(12, "count", 5);
        village(Texts.deeds(6, 0).replaceAll("0(;|$)", "0!$1") + ";5", 0, 6, 1, 0, 2, 1, 3, 2, 4, 3, 5, 4)
            .due(0, "count", 3).due(6, "count", 4).due(1, "count", 5).due(6, "count", 7).due(7, "count", 0);
        village("0!;1!;").due(0, "count", 0).due(6, "count", 1).due(0, "count", 5).due(0, "count", 7);
    }

    private static void latestFinding() {
        Village x = fresh().due(0, "count", 8).due(-2, "read", 4).due(0, "count", 8).due(-3, "undo").due(0, "count", 8);
        x.due(-15, "sheet", 0, 0, -1).due(5, "count", 8).due(-11, "read", 0).due(1, "count", 8).due(-2, "count", 9);
        x.due(2, "sheet", 0, 0, 2).due(1, "count", 8).due(2, "lose", 0).due(1, "count", 8).due(0, "wipe");
        x.due(1, "count", 8).due(0, "forget").due(1, "count", 8);
    }

    // ---- digest

    private static long digestOf(Village x) {
        List<Long> all = new ArrayList<>();
        int deeds = (int) x.answer("count", 0);
        int undoings = (int) x.answer("count", 2);
        for (int what = 0; what < 8; what++) {
            all.add(x.answer("count", what));
        }
        all.addAll(List.of(x.answer("fault"), x.answer("judged")));
        for (int d = 0; d < deeds; d++) {
            all.addAll(List.of(x.answer("deed", d, 0), x.answer("deed", d, 1), x.answer("deed", d, 2)));
            all.add(x.answer("root", d));
        }
        for (int u = 0; u < undoings; u++) {
            all.addAll(List.of(x.answer("holds", u), x.answer("by", u)));
            all.addAll(List.of(x.answer("without", u, 0), x.answer("without", u, 1)));
        }
        for (int k = 0; k <= undoings; k++) {
            all.addAll(List.of(x.answer("state", k, 0), x.answer("state", k, 1)));
        }
        all.addAll(List.of(x.answer("fewest", 1, 2, 2, 0), x.answer("fewest", 1, 2, 2, 1)));
        all.addAll(List.of(x.answer("safe", 0), x.answer("safe", 1), x.answer("safe", 2)));
        for (int what = 0; what < 4; what++) {
            all.add(x.answer("last", 0, 1, what));
        }
        all.addAll(List.of(x.answer("often"), x.answer("drawn", 7, 3, 0), x.answer("drawn", 7, 3, 1)));
        return folded(all);
    }

    /** As numbers without a bound, of which the lowest 64 bits are left at the end alone. */
    private static long folded(List<Long> all) {
        BigInteger h = BigInteger.valueOf(17);
        for (long answer : all) {
            h = h.multiply(BigInteger.valueOf(31)).add(BigInteger.valueOf(answer));
        }
        return h.longValue();
    }

    private static void asLongsThatWrap() {
        List<Long> ofNone = new ArrayList<>(List.of(0L, 0L, 0L, 0L, 0L, 0L, 0L, 0L, -1L, -1L, 0L, 63L));
        ofNone.addAll(List.of(0L, -1L, 0L, 0L, 0L, 0L, 0L, -1L, -1L, 1L, 0L, 0L));
        fresh().due(folded(ofNone), "digest");
        List<Supplier<Village>> all = List.of(RefusalsBoundaryTest::fresh, RefusalsBoundaryTest::between,
            RefusalsBoundaryTest::full, () -> village("0"), () -> village("", 0, 0), () -> village("0;", 0, 0),
            () -> village(Texts.TWELVE), () -> fresh().fills(12), () -> between().types(";"),
            () -> village("0;1;2;3;4;5;0;1;2;3;4;5"), () -> village("0;1", 5, 0), () -> village("1;0", 5, 0),
            () -> village("4;4;4"),
            () -> village(Texts.TWELVE_60, 5, 0, 4, 12, 3, 13, 2, 14, 1, 15));
        for (Supplier<Village> made : all) {
            made.get().due(digestOf(made.get()), "digest");
        }
    }

    // ---- how long

    private static void allOf512Calls() {
        Village full = full();
        long digest = full.answer("digest");
        while (full.callsLeft() > 0) {
            full.due(digest, "digest");
        }
        Village typed = fresh();
        while (typed.callsLeft() > 1) {
            typed.answer("count", 8);
        }
        typed.due(1, "type", '0');
        Village sheets = fresh();
        for (int i = 0; sheets.callsLeft() > 1; i++) {
            sheets.due(60, "sheet", i % 4, i % 3, 60);
        }
        sheets.due(60, "lose", 3);
        Village turned = village("0");
        while (turned.callsLeft() > 3) {
            turned.due(1, "undoes", 1, 0).due(0, "undo");
        }
        turned.due(1, "undoes", 1, 0).due(0, "state", 1, 0);
    }

    public static void main(String[] args) {
        DOC.says("Refusals, the first that fits, in the order told at each act: BAD -2 (a number not as told, no such "
            + "thing), NULL, NOT -3 (as told), FULL -4, other FINDINGS.", RefusalsBoundaryTest::theFirstThatFits);
        DOC.says("They change nothing (FINDINGS but count() 8).", RefusalsBoundaryTest::refusalsChangeNothing);
        DOC.says("they change nothing but count() 8", RefusalsBoundaryTest::findingsButTheCount);
        DOC.says("Where any number is told, a refusal -x is -1000 less x.", RefusalsBoundaryTest::anyNumber);
        DOC.says("Nothing is promised beyond the answers and state changes described above",
            RefusalsBoundaryTest::questionsChangeNothing);
        DOC.says("6 SEEN, 7 DEEDS done for OWN reasons, 8 the number of the latest FINDING (0 before any). BAD.",
            RefusalsBoundaryTest::countFromNoneToFull);
        DOC.says("8 the number of the latest FINDING (0 before any)", RefusalsBoundaryTest::latestFinding);
        DOC.says("as longs that wrap", RefusalsBoundaryTest::asLongsThatWrap);
        DOC.says("An object is used for at most 512 calls", RefusalsBoundaryTest::allOf512Calls);
        DOC.end();
    }
}
