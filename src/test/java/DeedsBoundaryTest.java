import java.util.List;
import java.util.Set;

/** What the document says of the bounds of DEEDS: their text, its FAULT, promises 1 to 5. */
public final class DeedsBoundaryTest {
    private static final Sentences DOC = new Sentences("DeedsBoundaryTest");
    private static final int LEAST = Integer.MIN_VALUE;
    private static final int MOST = Integer.MAX_VALUE;

    private static Village village(String deeds, int... undoings) {
        return DOC.village(deeds, undoings);
    }

    private static void faultOf(String text, int place) {
        village(text).due(place, "fault");
    }

    private static void constants() {
        DOC.check.due("NONE", EachUndoes.NONE, -1);
        DOC.check.due("BAD", EachUndoes.BAD, -2);
        DOC.check.due("NOT", EachUndoes.NOT, -3);
        DOC.check.due("FULL", EachUndoes.FULL, -4);
    }

    private static void noDeedsInANewObject() {
        village("").due(0, "count", 0).due(0, "count", 1).due(0, "count", 5).due(0, "count", 7).due(-1, "fault")
            .due(-2, "deed", 0, 0).due(-2, "root", 0).due(0, "state", 0, 0).due(63, "state", 0, 1);
        village("").due(0, "count", 2).due(0, "count", 3).due(0, "count", 4).due(-1, "judged").due(-3, "undo")
            .due(-2, "holds", 0).due(-2, "by", 0).due(-2, "without", 0, 0).due(-2, "state", 1, 0);
        Village lost = village("").due(0, "count", 8);
        for (int s = 0; s < 4; s++) {
            lost.due(-11, "lose", s).due(-11, "read", s).due(-11, "write", s).due(-11, "lay", s, 0, 0, 0)
                .due(LEAST, "get", s, 0, 0).due(-11, "copy", s, 0, s, 0, 0);
        }
        village("").due(0, "wipe").due(0, "forget").due(0, "count", 6).due(1, "often");
    }

    private static void sixtyBytes() {
        Village x = village(Texts.TWELVE_59).due(59, "count", 1).due(60, "type", 'c').due(60, "count", 1)
            .due(12, "count", 0).due(-1, "fault").due(7, "deed", 11, 1);
        x.due(-4, "type", '!').due(60, "count", 1).due(12, "count", 0).due(0, "deed", 11, 2).due(-1, "fault");
        x.due(60, "wipe").due(1, "type", '0').due(1, "count", 0);
        Village zeros = village("\0".repeat(60)).due(60, "count", 1).due(-4, "type", 0).due(60, "count", 1);
        zeros.due(0, "fault").due(60, "wipe");
    }

    private static void twelveDeeds() {
        for (int many = 0; many <= 12; many++) {
            Village x = village(Texts.deeds(many, 4)).due(many, "count", 0).due(-1, "fault");
            x.due(many == 0 ? -2 : 4, "deed", 0, 0).due(-2, "deed", many, 0).due(-2, "deed", -1, 0);
            x.due((1 << many) - 1, "state", 0, 0);
        }
        village(Texts.TWELVE).due(0, "deed", 11, 0).due(-2, "deed", 12, 0);
        village(Texts.deeds(13, 0)).due(0, "count", 0).due(-2, "deed", 0, 0);
    }

    private static void semicolonsBetween() {
        faultOf(";", 0);
        faultOf(";0", 0);
        faultOf("0;;0", 2);
        faultOf("00", 1);
        faultOf("0;00", 3);
        faultOf("0,0", 1);
        village("0;0").due(2, "count", 0).due(-1, "fault");
        village("0").due(1, "count", 0).due(-1, "fault");
    }

    private static void figures() {
        for (int b = 0; b < 256; b++) {
            boolean figure = b >= '0' && b <= '5';
            village("" + (char) b).due(figure ? -1 : 0, "fault").due(figure ? b - '0' : -2, "deed", 0, 0);
            village("5;" + (char) b).due(figure ? -1 : 2, "fault").due(figure ? b - '0' : -2, "deed", 1, 0);
        }
    }

    private static void lettersOfDeedsAhead() {
        for (int deed = 0; deed < 12; deed++) {
            String text = Texts.ahead(deed) + "0";
            for (int b = 0; b < 256; b++) {
                boolean letter = b >= 'a' && b < 'a' + deed;
                int fault = letter || b == '!' ? -1 : b == ';' ? text.length() + 1 : text.length();
                village(text + (char) b).due(fault, "fault")
                    .due(fault != -1 ? -2 : letter ? 1 << b - 'a' : 0, "deed", deed, 1);
            }
        }
    }

    private static void threeLettersAtMost() {
        String text = Texts.ahead(11) + "0";
        for (char one = 'a'; one <= 'k'; one++) {
            for (char two = (char) (one + 1); two <= 'k'; two++) {
                for (char three = (char) (two + 1); three <= 'k'; three++) {
                    int bits = 1 << one - 'a' | 1 << two - 'a' | 1 << three - 'a';
                    village(text + one + two + three).due(-1, "fault").due(bits, "deed", 11, 1);
                    for (char four = (char) (three + 1); four <= 'l'; four++) {
                        village(text + one + two + three + four).due(text.length() + 3, "fault").due(0, "count", 0);
                    }
                }
            }
        }
        village(text + "ijk!").due(-1, "fault").due(1792, "deed", 11, 1).due(1, "deed", 11, 2);
    }

    private static void lettersRise() {
        String text = Texts.ahead(11) + "0";
        for (char one = 'a'; one <= 'k'; one++) {
            for (char two = 'a'; two <= 'k'; two++) {
                faultOf(text + one + two, two > one ? -1 : text.length() + 1);
                if (one < 'e') {
                    faultOf(text + one + 'f' + two, two > 'f' ? -1 : text.length() + 2);
                }
            }
        }
    }

    private static void exclamationMarkBehindThese() {
        village("0").due(0, "deed", 0, 2).due(0, "count", 7);
        village("0!").due(1, "deed", 0, 2).due(1, "count", 7).due(-1, "fault");
        village("0!;1a!").due(1, "deed", 1, 2).due(1, "deed", 1, 1).due(2, "count", 7);
        village("0!;1a").due(0, "deed", 1, 2).due(1, "count", 7);
        village("0;1a!;2b").due(0, "deed", 2, 2).due(1, "deed", 1, 2).due(0, "deed", 0, 2);
        faultOf("!", 0);
        faultOf("0;!", 2);
        faultOf("0;1!a", 4);
        for (int b = 0; b < 256; b++) {
            faultOf("0;1a!" + (char) b, b == ';' ? 6 : 5);
        }
        village(Texts.deeds(12, 0).replace("0", "0!")).due(12, "count", 7).due(1, "deed", 11, 2);
    }

    private static void firstByteWithWhichItCannotGoOn() {
        Village x = village("0;1b").due(3, "fault");
        for (int i = 4; i < 60; i++) {
            x.due(i + 1, "type", i % 2 == 0 ? ';' : '9').due(3, "fault");
        }
        faultOf("6;0b", 0);
        faultOf("0a;6", 1);
        faultOf(Texts.TWELVE_59 + "b", 59);
        faultOf(Texts.TWELVE_59 + "l", 59);
        faultOf(Texts.ELEVEN_59 + "!", 59);
        faultOf("0;1a\377", 4);
        faultOf("\200", 0);
    }

    private static void emptyTextIsWell() {
        village("").due(-1, "fault").due(0, "count", 0);
        village("0;").due(2, "fault").due(2, "wipe").due(-1, "fault");
        village("6").due(1, "wipe").due(-1, "fault").due(0, "count", 0);
    }

    private static void notEnded() {
        for (int many = 1; many < 12; many++) {
            Village x = village(Texts.ahead(many)).due(2 * many, "fault").due(0, "count", 0);
            x.due(2 * many + 1, "type", '5').due(-1, "fault").due(many + 1, "count", 0).due(5, "deed", many, 0);
        }
        faultOf("0!;", 3);
        village(Texts.ELEVEN_59).due(11, "count", 0).due(60, "type", ';').due(60, "fault").due(0, "count", 0)
            .due(-4, "type", '0').due(60, "fault");
    }

    private static void thirteenth() {
        for (int b = 0; b < 256; b++) {
            Village x = village(Texts.TWELVE + ";" + (char) b).due(24, "fault").due(0, "count", 0);
            x.due(26, "type", '0').due(24, "fault");
        }
        faultOf(Texts.TWELVE + ";", 24);
        faultOf(Texts.TWELVE_58 + ";0", 59);
        faultOf(Texts.TWELVE_59 + ";", 60);
        faultOf(Texts.TWELVE_60, -1);
    }

    private static void withAFaultThereAreNone() {
        int[] undoings = {5, 0, 4, 12, 3, 1, 0, 2};
        String[] faulty = {"0;1a;2!;", "0;1a;2!;6", "0;1a;2!!", "0;1a;2a!;3ad", Texts.TWELVE_58 + ";0"};
        Sight none = new Sight(() -> full("", undoings));
        for (String text : faulty) {
            List<String> unlike = new Sight(() -> full(text, undoings)).unlike(none);
            DOC.check.isTrue("bytes and fault alone change by " + text + ": " + unlike,
                Set.copyOf(unlike).equals(Set.of("count(1)", "wipe()", "fault()", "digest()")));
        }
    }

    /** A village in which everything else has been told, too. */
    private static Village full(String deeds, int... undoings) {
        Village x = village(deeds, undoings);
        for (int d = 0; d < 12; d++) {
            x.answer("worth", d % 6, d, d - 6);
        }
        x.answer("seen", 0, 0);
        x.answer("seen", 1, 0);
        return x.sheet(0, 2, 5, 0, 4, 1);
    }

    private static void typeAByte() {
        for (int start = 0; start < 256; start += 32) {
            Village x = village("");
            for (int b = start; b < start + 32; b++) {
                x.due(b - start + 1, "type", b);
            }
            x.due(32, "count", 1);
        }
        Village x = village("0");
        int[] bad = {-1, 256, 256 + ';', ';' - 256, LEAST, MOST, LEAST + '0'};
        for (int b : bad) {
            x.due(-2, "type", b).due(1, "count", 1).due(-1, "fault");
        }
        Village full = village(Texts.TWELVE_60).due(-4, "type", 0).due(-4, "type", 255);
        for (int b : bad) {
            full.due(-2, "type", b);
        }
        full.due(60, "count", 1).due(12, "count", 0);
    }

    private static void wipeTells() {
        village("").due(0, "wipe").due(0, "wipe");
        village("0").due(1, "wipe").due(0, "wipe").due(0, "count", 1).due(0, "count", 0);
        village(Texts.TWELVE_59).due(59, "wipe").due(0, "count", 0);
        village(Texts.TWELVE_60).due(-4, "type", '0').due(60, "wipe").due(0, "wipe");
        village("0!!").due(3, "wipe").due(-1, "fault").types("1;2a").due(-1, "fault").due(0, "deed", 0, 2)
            .due(1, "deed", 1, 1);
        village("0!").due(2, "wipe").due(0, "count", 7).types("0").due(0, "deed", 0, 2).due(0, "count", 7);
        village("0;1a!").due(5, "wipe").types("0;1").due(0, "deed", 1, 1).due(0, "deed", 1, 2).due(0, "count", 7);
        Village rest = village("0;1", 5, 0, 0, 0).sheet(2, 1, 7, 8).due(-11, "read", 3);
        rest.due(0, "worth", 5, 11, -9).due(1, "seen", 0, 1);
        rest.due(3, "wipe").due(2, "count", 2).due(1, "count", 6).due(1, "count", 8).dueItems(2, 1, 7, 8)
            .due(-9, "worth", 5, 11, 0).due(2, "count", 3);
        rest.types("0").due(1, "count", 3).due(0, "state", 2, 0);
    }

    private static void faultOrNone() {
        village("0;1a").due(-1, "fault").due(-1, "fault");
        village("0;1a").types("a").due(4, "fault").types("\0").due(4, "fault");
        Village ended = village("0");
        ended.due(-1, "fault").types(";").due(2, "fault").types("1").due(-1, "fault").types(";;").due(4, "fault");
    }

    private static void deedOf() {
        Village x = village(Texts.ahead(11) + "5ijk!");
        x.due(5, "deed", 11, 0).due(1792, "deed", 11, 1).due(1, "deed", 11, 2);
        x.due(0, "deed", 0, 0).due(0, "deed", 0, 1).due(0, "deed", 0, 2);
        int[] noDeed = {-1, 12, 13, 24, LEAST, MOST};
        for (int deed : noDeed) {
            for (int what = 0; what < 3; what++) {
                x.due(-2, "deed", deed, what);
            }
        }
        int[] noWhat = {-1, 3, LEAST, MOST};
        for (int what : noWhat) {
            x.due(-2, "deed", 0, what).due(-2, "deed", 11, what);
        }
        village("0;1;2").due(2, "deed", 2, 0).due(-2, "deed", 3, 0);
        village("").due(-2, "deed", 0, 0);
        village("0;").due(-2, "deed", 0, 0);
    }

    public static void main(String[] args) {
        DOC.says("NONE = -1, BAD = -2, NOT = -3, FULL = -4", DeedsBoundaryTest::constants);
        DOC.says("No DEEDS, no UNDOINGS; all SHEETS are LOST.", DeedsBoundaryTest::noDeedsInANewObject);
        DOC.says("DEEDS are a text of up to 60 bytes", DeedsBoundaryTest::sixtyBytes);
        DOC.says("12 at most (0 on), with ; between them", DeedsBoundaryTest::twelveDeeds);
        DOC.says("with ; between them", DeedsBoundaryTest::semicolonsBetween);
        DOC.says("the figure of a PERSON (0 to 5), who did it", DeedsBoundaryTest::figures);
        DOC.says("letters a to l of DEEDS ahead of it (a is 0;", DeedsBoundaryTest::lettersOfDeedsAhead);
        DOC.says("3 at most, each truly ahead", DeedsBoundaryTest::threeLettersAtMost);
        DOC.says("in rising order", DeedsBoundaryTest::lettersRise);
        DOC.says("perhaps ! behind these: it was done for OWN reasons",
            DeedsBoundaryTest::exclamationMarkBehindThese);
        DOC.says("The FAULT is the place of the first byte with which it cannot go on",
            DeedsBoundaryTest::firstByteWithWhichItCannotGoOn);
        DOC.says("an empty text is well", DeedsBoundaryTest::emptyTextIsWell);
        DOC.says("of one that is not ended, as behind a ;, its end", DeedsBoundaryTest::notEnded);
        DOC.says("or of the first byte of a thirteenth", DeedsBoundaryTest::thirteenth);
        DOC.says("With a FAULT there are none.", DeedsBoundaryTest::withAFaultThereAreNone);
        DOC.says("A byte (0 to 255) comes behind DEEDS: how many. BAD; FULL.", DeedsBoundaryTest::typeAByte);
        DOC.says("DEEDS are empty: how many bytes they had.", DeedsBoundaryTest::wipeTells);
        DOC.says("The FAULT; NONE.", DeedsBoundaryTest::faultOrNone);
        DOC.says("Of a DEED: who did it (what = 0), of which it CAME, as bits (1), OWN reasons (2; 1, 0). BAD.",
            DeedsBoundaryTest::deedOf);
        DOC.end();
    }
}
