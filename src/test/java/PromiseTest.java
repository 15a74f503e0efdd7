/** Each promise of the document by examples: ordinary inputs, edges, refusals. */
public final class PromiseTest {
    private static final Check CHECK = new Check("PromiseTest");
    private static final int LEAST = Integer.MIN_VALUE;
    private static final int MOST = Integer.MAX_VALUE;
    private static final String TWELVE = "0;0;0;0;0;0;0;0;0;0;0;0";

    private static void due(String call, long got, long want) {
        CHECK.due(call, got, want);
    }

    private static EachUndoes village(String text) {
        EachUndoes x = new EachUndoes();
        typeAll(x, text);
        return x;
    }

    private static void typeAll(EachUndoes x, String text) {
        for (int i = 0; i < text.length(); i++) {
            x.type(text.charAt(i));
        }
    }

    /** Undoings as pairs of a person and a thing. */
    private static EachUndoes village(String text, int... pairs) {
        EachUndoes x = village(text);
        for (int i = 0; i + 1 < pairs.length; i += 2) {
            x.undoes(pairs[i], pairs[i + 1]);
        }
        return x;
    }

    private static void promise1NewObject() {
        EachUndoes x = new EachUndoes();
        for (int what = 0; what <= 8; what++) {
            due("1: count(" + what + ")", x.count(what), 0);
        }
        due("1: fault()", x.fault(), -1);
        due("1: judged()", x.judged(), -1);
        for (int s = 0; s < 4; s++) {
            due("1: write(" + s + ")", x.write(s), -11);
            due("1: lose(" + s + ")", x.lose(s), -11);
        }
        for (int p = 0; p < 6; p++) {
            due("1: worth of " + p, x.worth(p, 11, 0), 0);
        }
        due("1: forget()", x.forget(), 0);
        due("1: NONE", EachUndoes.NONE, -1);
        due("1: BAD", EachUndoes.BAD, -2);
        due("1: NOT", EachUndoes.NOT, -3);
        due("1: FULL", EachUndoes.FULL, -4);
    }

    private static void promise2Type() {
        EachUndoes x = new EachUndoes();
        due("2: type(-1)", x.type(-1), -2);
        due("2: type(256)", x.type(256), -2);
        due("2: type(least)", x.type(LEAST), -2);
        due("2: type(most)", x.type(MOST), -2);
        due("2: count(1) behind refusals", x.count(1), 0);
        due("2: type(0)", x.type(0), 1);
        due("2: type(255)", x.type(255), 2);
        for (int i = 3; i <= 60; i++) {
            due("2: byte " + i, x.type('0'), i);
        }
        due("2: type of a 61st", x.type('0'), -4);
        due("2: type of a bad 61st", x.type(256), -2);
        due("2: count(1) when full", x.count(1), 60);

        String longest = "0!;0a!;0ab!;0abc!;0abc!;0abc!;0abc!;0abc!;0abc!;0abc!;0;0abc";
        EachUndoes y = village(longest);
        due("2: 60 bytes", longest.length(), 60);
        due("2: bytes of the longest", y.count(1), 60);
        due("2: deeds of the longest", y.count(0), 12);
        due("2: fault of the longest", y.fault(), -1);
    }

    private static void promise3Wipe() {
        EachUndoes x = village("0;1a;2b", 0, 1, 5, 0);
        x.worth(0, 0, 4);
        x.seen(0, 1);
        due("3: wipe()", x.wipe(), 7);
        due("3: wipe() again", x.wipe(), 0);
        due("3: bytes", x.count(1), 0);
        due("3: deeds", x.count(0), 0);
        due("3: undoings stay", x.count(2), 2);
        due("3: but are against the law", x.count(3), 2);
        due("3: seen stays", x.count(6), 1);
        due("3: worth stays", x.worth(0, 0, 0), 4);
        typeAll(x, "3;4");
        due("3: deeds told anew", x.deed(0, 0), 3);
        due("3: the second came of none now", x.deed(1, 1), 0);
        due("3: undone anew", x.state(2, 0), 0);

        EachUndoes own = village("0!;1!");
        own.wipe();
        due("3: no own reasons left", own.count(7), 0);
        typeAll(own, "0;1a");
        due("3: nor anew", own.deed(1, 2), 0);

        EachUndoes faulty = village("0x");
        due("3: wipe() of a fault", faulty.wipe(), 2);
        due("3: no fault", faulty.fault(), -1);
    }

    private static void faultOf(String text, int place) {
        EachUndoes x = village(text);
        due("4: fault of " + text, x.fault(), place);
        due("4: deeds of " + text, x.count(0) > 0 ? 1 : 0, place == -1 && !text.isEmpty() ? 1 : 0);
        if (place != -1) {
            due("4: own reasons of " + text, x.count(7), 0);
            due("4: a deed of " + text, x.deed(0, 0), -2);
            due("4: safe of " + text, x.safe(0), 0);
        }
    }

    private static void promise4Fault() {
        faultOf("", -1);
        faultOf("0", -1);
        faultOf("5", -1);
        faultOf("6", 0);
        faultOf("/", 0);
        faultOf("a", 0);
        faultOf(";", 0);
        faultOf("!", 0);
        faultOf("00", 1);
        faultOf("0;", 2);
        faultOf("0;;", 2);
        faultOf("0 ", 1);
        faultOf("0a", 1);
        faultOf("0!", -1);
        faultOf("0!!", 2);
        faultOf("0!;", 3);
        faultOf("0!a", 2);
        faultOf("0!;1a!", -1);
        faultOf("0!;1a!b", 6);
        faultOf("0;1b", 3);
        faultOf("0;1A", 3);
        faultOf("0;1`", 3);
        faultOf("0;1a;2ab", -1);
        faultOf("0;1a;2aa", 7);
        faultOf("0;1a;2ba", 7);
        faultOf("0;1;2;3;4abcd", 12);
        faultOf("0;1;2;3;4abc", -1);
        faultOf("0;1;2;3;4acd!", -1);
        faultOf("0;1;2;3;4ac!d", 12);
        faultOf("0;1;2;3;4abe", 11);
        faultOf(TWELVE, -1);
        faultOf(TWELVE + ";", 24);
        faultOf(TWELVE + ";0", 24);
        faultOf(TWELVE + ";x", 24);
        faultOf(TWELVE + "k", -1);
        faultOf(TWELVE + "l", 23);
        faultOf(TWELVE + "m", 23);
        faultOf("0;1\u00ff", 3);
        faultOf("\u0000", 0);

        EachUndoes mended = village("0;");
        due("4: ahead", mended.fault(), 2);
        mended.type('1');
        due("4: mended", mended.fault(), -1);
        due("4: deeds", mended.count(0), 2);
    }

    private static void promise5Deed() {
        EachUndoes x = village("5;0a!;4ab;3abc!;2!");
        int[][] want = {{5, 0, 0}, {0, 1, 1}, {4, 3, 0}, {3, 7, 1}, {2, 0, 1}};
        for (int d = 0; d < want.length; d++) {
            for (int what = 0; what < 3; what++) {
                due("5: deed(" + d + ", " + what + ")", x.deed(d, what), want[d][what]);
            }
        }
        due("5: deed(-1, 0)", x.deed(-1, 0), -2);
        due("5: deed(5, 0)", x.deed(5, 0), -2);
        due("5: deed(0, -1)", x.deed(0, -1), -2);
        due("5: deed(0, 3)", x.deed(0, 3), -2);
        due("5: deed(most, least)", x.deed(MOST, LEAST), -2);
        due("5: the twelfth of k", village(TWELVE + "ak").deed(11, 1), 1025);
        due("5: deed(12, 0)", village(TWELVE).deed(12, 0), -2);
    }

    private static void promise6Undoes() {
        EachUndoes x = village("0");
        due("6: undoes(-1, 0)", x.undoes(-1, 0), -2);
        due("6: undoes(6, 0)", x.undoes(6, 0), -2);
        due("6: undoes(0, -1)", x.undoes(0, -1), -2);
        due("6: undoes(0, 24)", x.undoes(0, 24), -2);
        due("6: none came", x.count(2), 0);
        for (int i = 1; i <= 12; i++) {
            due("6: undoing " + i, x.undoes(i % 6, i == 1 ? 23 : 0), i);
        }
        due("6: a thirteenth", x.undoes(0, 0), -4);
        due("6: a bad thirteenth", x.undoes(6, 0), -2);
        due("6: twelve", x.count(2), 12);
    }

    private static void promise7Read() {
        EachUndoes x = village("0;1");
        due("7: read(-1)", x.read(-1), -2);
        due("7: read(4)", x.read(4), -2);
        due("7: read of a lost one", x.read(3), -11);
        due("7: the finding", x.count(8), 1);
        x.sheet(0, 0, 0);
        due("7: read of an empty one", x.read(0), 0);
        x.sheet(0, 0, 1);
        due("7: read of half a pair", x.read(0), 0);
        x.sheet(0, 0, 5);
        x.lay(0, 0, 0, 1);
        x.lay(0, 0, 2, 2);
        x.lay(0, 0, 3, 12);
        due("7: read of two and a half", x.read(0), 2);
        due("7: they hold as told", x.holds(0) * 10 + x.holds(1), 1);
        due("7: who may still", x.state(2, 1), 63 - 2 - 4);

        int[][] bad = {{6, 0}, {-1, 0}, {0, 24}, {0, -1}};
        for (int[] pair : bad) {
            EachUndoes y = village("0");
            y.sheet(1, 2, 6);
            y.lay(1, 2, 0, 5);
            y.lay(1, 2, 2, pair[0]);
            y.lay(1, 2, 3, pair[1]);
            due("7: until " + pair[0] + ", " + pair[1], y.read(1), 1);
            due("7: those came", y.count(2), 1);
        }
        EachUndoes full = village("0", 1, 0, 1, 0, 1, 0, 1, 0, 1, 0, 1, 0, 1, 0, 1, 0, 1, 0, 1, 0);
        full.sheet(2, 1, 60);
        due("7: while there is room", full.read(2), 2);
        due("7: when there is none", full.read(2), 0);
        due("7: twelve", full.count(2), 12);
        EachUndoes whole = village("0");
        whole.sheet(0, 1, 60);
        due("7: all the room", whole.read(0), 12);
        EachUndoes law = village("0");
        law.sheet(0, 1, 4);
        due("7: against the law, but told", law.read(0), 2);
        due("7: so many against it", law.count(3), 2);
    }

    private static void promise8Undo() {
        EachUndoes x = village("0;1", 1, 0, 0, 1, 2, 12);
        due("8: fell", x.state(3, 0), 1);
        due("8: undo()", x.undo(), 2);
        due("8: stands", x.state(2, 0), 0);
        due("8: no third", x.state(3, 0), -2);
        due("8: undo()", x.undo(), 1);
        due("8: who may still", x.state(1, 1), 61);
        due("8: undo()", x.undo(), 0);
        due("8: undo() of none", x.undo(), -3);
        due("8: all stand", x.state(0, 0), 3);
        due("8: told anew", x.undoes(0, 1), 1);
        due("8: fell anew", x.state(1, 0), 1);
    }

    private static void promise9Worth() {
        EachUndoes x = new EachUndoes();
        due("9: worth(-1, 0, 0)", x.worth(-1, 0, 0), -1002);
        due("9: worth(6, 0, 0)", x.worth(6, 0, 0), -1002);
        due("9: worth(0, -1, 0)", x.worth(0, -1, 0), -1002);
        due("9: worth(0, 12, 0)", x.worth(0, 12, 0), -1002);
        due("9: worth(0, 0, -10)", x.worth(0, 0, -10), -1002);
        due("9: worth(0, 0, 10)", x.worth(0, 0, 10), -1002);
        due("9: worth(0, 0, least)", x.worth(0, 0, LEAST), -1002);
        due("9: worth(5, 11, 9)", x.worth(5, 11, 9), 0);
        due("9: worth(5, 11, -9)", x.worth(5, 11, -9), 9);
        due("9: worth(5, 11, 10)", x.worth(5, 11, 10), -1002);
        due("9: worth(5, 11, 0)", x.worth(5, 11, 0), -9);
        due("9: of another person", x.worth(4, 11, 0), 0);
        due("9: of another deed", x.worth(5, 10, 0), 0);
    }

    private static void promise10Judged() {
        due("10: of none", village("0").judged(), -1);
        due("10: all by the law", village("0;1", 1, 0, 0, 1, 2, 12).judged(), -1);
        due("10: of one's own", village("0", 0, 0).judged(), 0);
        due("10: of no such deed", village("0", 1, 1).judged(), 0);
        due("10: of one's own undoing", village("0", 1, 0, 1, 12).judged(), 1);
        due("10: of one that is not ahead", village("0", 1, 13, 2, 0).judged(), 0);
        due("10: of itself", village("0", 1, 12).judged(), 0);
        due("10: of one against the law", village("0", 0, 0, 1, 12).judged(), 0);
        due("10: and it is, too", village("0", 0, 0, 1, 12).count(3), 2);
        due("10: twice in a life", village("0;0", 1, 0, 1, 1).judged(), 1);
        due("10: twice, though it was undone", village("0;0", 1, 0, 2, 12, 1, 1).judged(), 2);
        due("10: again, as it was against the law", village("0;1", 1, 1, 1, 0).count(3), 1);
        due("10: what fell may be undone", village("0;1a", 2, 0, 3, 1, 4, 0).judged(), -1);
        due("10: an undone undoing, too", village("0", 1, 0, 2, 12, 3, 12).judged(), -1);
        EachUndoes x = village("", 1, 0);
        due("10: no deeds", x.judged(), 0);
        typeAll(x, "0");
        due("10: told later", x.judged(), -1);
        x.type(';');
        due("10: with a fault", x.judged(), 0);
    }

    private static void promise11Holds() {
        EachUndoes x = village("0;1", 1, 0, 2, 12, 3, 13, 0, 0);
        int[] want = {1, 0, 1, 0};
        for (int u = 0; u < 4; u++) {
            due("11: holds(" + u + ")", x.holds(u), want[u]);
        }
        due("11: holds(-1)", x.holds(-1), -2);
        due("11: holds(4)", x.holds(4), -2);
        due("11: holds(least)", x.holds(LEAST), -2);
        EachUndoes twice = village("0", 1, 0, 2, 12, 3, 12, 4, 13);
        due("11: undone by two, one undone", twice.holds(0), 0);
        twice.undoes(5, 14);
        due("11: both undone", twice.holds(0), 1);
    }

    private static void promise12State() {
        EachUndoes x = village("0;1a;2a!;3b;4c", 5, 0, 4, 12, 3, 3);
        int[] stand = {31, 20, 31, 31};
        int[] still = {63, 31, 15, 15};
        for (int k = 0; k < 4; k++) {
            due("12: state(" + k + ", 0)", x.state(k, 0), stand[k]);
            due("12: state(" + k + ", 1)", x.state(k, 1), still[k]);
        }
        due("12: state(-1, 0)", x.state(-1, 0), -2);
        due("12: state(4, 0)", x.state(4, 0), -2);
        due("12: state(0, -1)", x.state(0, -1), -2);
        due("12: state(0, 2)", x.state(0, 2), -2);
        due("12: own reasons, but undone", village("0;1a!", 2, 1).state(1, 0), 1);
        due("12: of two, one fell", village("0;1;2ab", 5, 1).state(1, 0), 1);
        due("12: of none", new EachUndoes().state(0, 0), 0);
        due("12: all twelve", village(TWELVE).state(0, 0), 4095);
    }

    private static void promise13Root() {
        EachUndoes x = village("0;1;2a;3bc;4d!;5;0f", 5, 0, 4, 1, 3, 2, 2, 4);
        int[] want = {0, 1, 0, 0, 4, -1, -1};
        for (int d = 0; d < want.length; d++) {
            due("13: root(" + d + ")", x.root(d), want[d]);
        }
        due("13: root(-1)", x.root(-1), -2);
        due("13: root(7)", x.root(7), -2);
        due("13: root(most)", x.root(MOST), -2);
        due("13: not by one that holds not", village("0;1a", 2, 0, 3, 12, 4, 1).root(1), 1);
        due("13: with a fault", village("0;").root(0), -2);
    }

    private static void promise14By() {
        EachUndoes x = village("0;1a;2a!;3b", 5, 0, 4, 12, 3, 1, 3, 0);
        int[] want = {11, 11, 10, 0};
        for (int u = 0; u < 4; u++) {
            due("14: by(" + u + ")", x.by(u), want[u]);
        }
        due("14: by(-1)", x.by(-1), -2);
        due("14: by(4)", x.by(4), -2);
        due("14: of what fell", village("0;1a", 5, 0, 4, 1).by(1), 0);
    }

    private static void promise15Without() {
        EachUndoes x = village("0;1;2", 5, 0, 5, 1, 4, 12);
        due("15: now", x.state(3, 0), 7);
        due("15: without(0, 0): another is by the law then", x.without(0, 0), 5);
        due("15: without(0, 1)", x.without(0, 1), 1);
        due("15: without(1, 0)", x.without(1, 0), 7);
        due("15: without(1, 1)", x.without(1, 1), -1);
        due("15: without(2, 0)", x.without(2, 0), 6);
        due("15: without(2, 1)", x.without(2, 1), 0);
        due("15: without(-1, 0)", x.without(-1, 0), -2);
        due("15: without(3, 0)", x.without(3, 0), -2);
        due("15: without(0, -1)", x.without(0, -1), -2);
        due("15: without(0, 2)", x.without(0, 2), -2);
        EachUndoes kept = village("0;1", 5, 0, 4, 1, 3, 13);
        due("15: numbers as they are", kept.without(0, 0), 3);
        due("15: numbers as they are, of the next", kept.without(1, 0), 2);
        due("15: the last", kept.without(2, 1), 1);
    }

    private static void promise16Fewest() {
        EachUndoes x = village("0;1a;2b!;3c;4");
        due("16: none is needed", x.fewest(31, 0, 0, 0), 0);
        due("16: none is needed, the first", x.fewest(31, 0, 2, 1), -1);
        due("16: one", x.fewest(0, 2, 1, 0), 1);
        due("16: one, the first: by 0 of b", x.fewest(0, 2, 1, 1), 1);
        due("16: of none more", x.fewest(0, 2, 0, 0), -1);
        due("16: a too", x.fewest(0, 3, 1, 1), 24);
        due("16: two", x.fewest(0, 16 + 8, 2, 0), 2);
        due("16: two, the first", x.fewest(0, 16 + 8, 2, 1), 2);
        due("16: two are more than one", x.fewest(0, 16 + 8, 1, 0), -1);
        due("16: but c stands", x.fewest(4, 16 + 8, 2, 1), 3);
        due("16: cannot be", x.fewest(2, 1, 2, 0), -1);
        due("16: cannot be, the first", x.fewest(2, 1, 2, 1), -1);
        due("16: three cannot be", x.fewest(0, 1 + 4 + 16, 2, 0), -1);
        due("16: bits of none there", x.fewest(32 + 2048, 64 + 2, 2, 1), 1);
        due("16: fewest(-1, 0, 0, 0)", x.fewest(-1, 0, 0, 0), -2);
        due("16: fewest(0, -1, 0, 0)", x.fewest(0, -1, 0, 0), -2);
        due("16: fewest(4096, 0, 0, 0)", x.fewest(4096, 0, 0, 0), -2);
        due("16: fewest(0, 4096, 0, 0)", x.fewest(0, 4096, 0, 0), -2);
        due("16: both of one", x.fewest(3, 2, 2, 0), -2);
        due("16: both of one not there", x.fewest(2048, 2048, 2, 0), -2);
        due("16: fewest(0, 0, -1, 0)", x.fewest(0, 0, -1, 0), -2);
        due("16: fewest(0, 0, 3, 0)", x.fewest(0, 0, 3, 0), -2);
        due("16: fewest(0, 0, 0, -1)", x.fewest(0, 0, 0, -1), -2);
        due("16: fewest(0, 0, 0, 2)", x.fewest(0, 0, 0, 2), -2);

        EachUndoes back = village("0;1", 5, 0, 0, 1);
        due("16: one undoing undone", back.fewest(1, 0, 2, 1), 24 + 12);
        due("16: both", back.fewest(3, 0, 2, 0), 2);
        due("16: both, the first", back.fewest(3, 0, 2, 1), 24 + 12);
        EachUndoes chain = village("0", 5, 0, 4, 12, 3, 13);
        due("16: the chain's", chain.fewest(1, 0, 2, 1), 12);

        EachUndoes eleven = village("0;1", 5, 2, 5, 2, 5, 2, 5, 2, 5, 2, 5, 2, 5, 2, 5, 2, 5, 2, 5, 2, 5, 2);
        due("16: a twelfth", eleven.fewest(0, 2, 2, 1), 1);
        due("16: no thirteenth", eleven.fewest(0, 3, 2, 0), -1);
        eleven.undo();
        due("16: with room for two", eleven.fewest(0, 3, 2, 0), 2);
        EachUndoes spent = village("0;0;0", 1, 12, 1, 0, 2, 0, 3, 0, 4, 0);
        due("16: one person left", spent.fewest(0, 6, 2, 0), -1);
        due("16: one is enough", spent.fewest(0, 2, 2, 1), 24 * 5 + 1);
        due("16: nobody may both", village("0;1;1", 5, 0, 4, 0, 3, 0, 2, 0).fewest(0, 6, 2, 0), -1);
        due("16: the first by 1", village("1;0", 5, 9, 5, 1, 4, 1, 3, 1, 2, 1).fewest(0, 1, 2, 1), 0);
    }

    private static void promise17Safe() {
        EachUndoes x = village("0;0;1", 1, 0, 2, 0, 3, 0, 4, 0);
        due("17: safe(-1)", x.safe(-1), -2);
        due("17: safe(3)", x.safe(3), -2);
        due("17: 0 and 5 are left", x.state(4, 1), 33);
        due("17: what stands", x.safe(0), 6);
        due("17: 5 may undo any", x.safe(1), 0);
        x.undoes(5, 0);
        due("17: 0 alone is left: its own are safe", x.safe(1), 2);
        due("17: from two, too: there is only one", x.safe(2), 2);
        due("17: of all", village("0;1").safe(0), 3);
        due("17: of all, by one", village("0;1").safe(1), 0);
        due("17: of none", new EachUndoes().safe(2), 0);

        EachUndoes fetched = village("2;2", 0, 0, 1, 12, 3, 5, 4, 7, 4, 1, 3, 16, 5, 2, 5, 14);
        due("17: 2 is left, and 5", fetched.state(8, 1), 36);
        fetched.undo();
        fetched.undoes(5, 17);
        due("17: 2 alone is left", fetched.state(8, 1), 4);
        due("17: what stands now", fetched.safe(0), 1);
        due("17: 2 may undo the undoing of its undoing", fetched.safe(1), 0);
        EachUndoes twice = village("2;2", 0, 0, 1, 12, 3, 12, 4, 12, 5, 12);
        due("17: undone by many, so one more does not matter", twice.safe(1), 3);

        EachUndoes full = village("0;1", 5, 5, 5, 5, 5, 5, 5, 5, 5, 5, 5, 5, 5, 5, 5, 5, 5, 5, 5, 5, 5, 5, 5, 5);
        due("17: no room", full.safe(2), 3);
        full.undo();
        due("17: room for one", full.safe(1), 0);
        due("17: room for one of two", full.safe(2), 0);
    }

    private static void promise18Last() {
        EachUndoes x = village("4;4;4");
        x.worth(0, 0, -3);
        x.worth(0, 1, -9);
        x.worth(0, 2, 5);
        x.worth(1, 2, -1);
        due("18: a", x.last(0, 1, 0), -3);
        due("18: b", x.last(0, 1, 1), 0);
        due("18: a undoes", x.last(0, 1, 2), 1);
        due("18: b then", x.last(0, 1, 3), 2);
        due("18: the other way round", x.last(1, 0, 0), 0);
        due("18: for 0 then", x.last(1, 0, 1), -3);
        due("18: 1 undoes c at once", x.last(1, 0, 2), 2);
        due("18: 0 does not fetch it back", x.last(1, 0, 3), 1);
        due("18: of like ones not to", x.last(2, 3, 2), -1);
        due("18: nor then", x.last(2, 3, 3), -1);
        due("18: last(-1, 0, 0)", x.last(-1, 0, 0), -1002);
        due("18: last(6, 0, 0)", x.last(6, 0, 0), -1002);
        due("18: last(0, -1, 0)", x.last(0, -1, 0), -1002);
        due("18: last(0, 6, 0)", x.last(0, 6, 0), -1002);
        due("18: last(3, 3, 0)", x.last(3, 3, 0), -1002);
        due("18: last(0, 1, -1)", x.last(0, 1, -1), -1002);
        due("18: last(0, 1, 4)", x.last(0, 1, 4), -1002);

        EachUndoes least = village("4;4a;4b");
        least.worth(0, 2, -1);
        due("18: of like ones the least", least.last(0, 1, 2), 0);
        EachUndoes undone = village("4");
        undone.worth(0, 0, -2);
        undone.worth(1, 0, 1);
        due("18: b would undo what a undid, so not to", undone.last(0, 1, 2), -1);
        due("18: what it is for a", undone.last(0, 1, 0), -2);
        undone.undoes(1, 0);
        undone.undoes(2, 12);
        due("18: b may not any more", undone.last(0, 1, 2), 0);
        due("18: so a has it", undone.last(0, 1, 0), 0);
        due("18: a may not, b does", undone.last(1, 0, 3), 0);

        EachUndoes reply = village("4;4");
        reply.worth(0, 0, -9);
        reply.worth(0, 1, 1);
        reply.worth(1, 0, 3);
        reply.worth(1, 1, -2);
        due("18: b undoes the undoing", reply.last(0, 1, 3), 12);
        due("18: it is better for a than b's other way", reply.last(0, 1, 2), 0);
        due("18: all stand", reply.last(0, 1, 0) * 100 + reply.last(0, 1, 1), -799);
        reply.worth(0, 1, 0);
        reply.worth(1, 1, -4);
        due("18: b undoes another, so a does", reply.last(0, 1, 2), 0);
        due("18: b then", reply.last(0, 1, 3), 1);

        EachUndoes eleven = village("4;4", 5, 5, 5, 5, 5, 5, 5, 5, 5, 5, 5, 5, 5, 5, 5, 5, 5, 5, 5, 5, 5, 5);
        eleven.worth(0, 0, -1);
        eleven.worth(1, 0, 1);
        eleven.worth(1, 1, -1);
        due("18: a takes the last room", eleven.last(0, 1, 2), 0);
        due("18: none is left for b", eleven.last(0, 1, 3), -1);
        due("18: none for b, so", eleven.last(0, 1, 1), -1);
        due("18: b first", eleven.last(1, 0, 2), 1);
        eleven.undoes(5, 5);
        due("18: no room at all", eleven.last(0, 1, 2), -1);
        due("18: as all stand", eleven.last(0, 1, 0), -1);

        EachUndoes own = village("0;1");
        own.worth(0, 0, -9);
        own.worth(1, 1, -9);
        own.worth(0, 1, 1);
        own.worth(1, 0, 1);
        due("18: not one's own", own.last(0, 1, 0), -8);
    }

    private static void promise19Seen() {
        EachUndoes x = new EachUndoes();
        due("19: seen(-1, 0)", x.seen(-1, 0), -2);
        due("19: seen(12, 0)", x.seen(12, 0), -2);
        due("19: seen(0, -1)", x.seen(0, -1), -2);
        due("19: seen(0, 2)", x.seen(0, 2), -2);
        for (int i = 1; i <= 8; i++) {
            due("19: seen " + i, x.seen(i == 1 ? 11 : 0, 0), i);
        }
        due("19: a ninth", x.seen(0, 0), -4);
        due("19: a bad ninth", x.seen(12, 0), -2);
        due("19: eight", x.count(6), 8);
        due("19: all so", x.often(), 1);
    }

    private static void promise20Forget() {
        EachUndoes x = village("0");
        due("20: forget() of none", x.forget(), 0);
        x.seen(0, 0);
        x.seen(0, 1);
        due("20: ahead", x.often(), 0);
        due("20: forget()", x.forget(), 2);
        due("20: behind", x.often(), 1);
        due("20: none left", x.count(6), 0);
        due("20: seen anew", x.seen(0, 1), 1);
        due("20: as it was", x.often(), 1);
    }

    private static void promise21Often() {
        EachUndoes x = village("0;1", 5, 0, 4, 12, 3, 1);
        due("21: of nothing seen", x.often(), 15);
        x.seen(0, 1);
        due("21: a stood", x.often(), 13);
        x.seen(1, 0);
        due("21: b did not", x.often(), 8);
        x.seen(2, 0);
        x.seen(11, 0);
        due("21: one not there did not", x.often(), 8);
        x.seen(11, 1);
        due("21: one not there stood", x.often(), 0);
        x.forget();
        x.seen(0, 0);
        due("21: a did not", x.often(), 2);
        x.seen(0, 1);
        due("21: both", x.often(), 0);
        EachUndoes both = village("0;1", 5, 0, 4, 12, 3, 1);
        both.seen(0, 1);
        both.seen(1, 1);
        due("21: a and b stood", both.often(), 5);
        EachUndoes full = village("0", 1, 0, 2, 0, 3, 0, 1, 0, 1, 0, 1, 0, 1, 0, 1, 0, 1, 0, 1, 0, 1, 0, 1, 0);
        due("21: of twelve", full.often(), 8191);
        full.seen(0, 0);
        due("21: of twelve, fell", full.often(), 8190);
    }

    private static void promise22Drawn() {
        EachUndoes x = village("0;1;2;3;4;5");
        due("22: drawn(0, -1, 0)", x.drawn(0, -1, 0), -2);
        due("22: drawn(0, 7, 0)", x.drawn(0, 7, 0), -2);
        due("22: drawn(0, 0, -1)", x.drawn(0, 0, -1), -2);
        due("22: drawn(0, 0, 2)", x.drawn(0, 0, 2), -2);
        due("22: none drawn", x.drawn(7, 0, 0), 63);
        due("22: none done", x.drawn(7, 0, 1), 0);
        // From 0: 12345, its upper bits 0, so person 0; then 3554416254, upper 54236, of 5 others the second: c.
        due("22: one from 0", x.drawn(0, 1, 0), 59);
        due("22: one done", x.drawn(0, 1, 1), 1);
        // 4 alone is left: its lot of one is drawn, too, so of b, c and d the deed is 54236 modulo 3, the third.
        EachUndoes alone = village("5;5;5;5", 0, 0, 1, 0, 2, 0, 3, 0, 5, 12);
        due("22: 4 alone is left", alone.state(5, 1), 16);
        due("22: a lot of one", alone.drawn(0, 6, 0), 6);
        due("22: nothing changed", x.count(2), 0);
        due("22: all six", x.drawn(1, 6, 1) + Integer.bitCount(x.drawn(1, 6, 0)), 6);
        due("22: none of others'", village("0").drawn(0, 6, 1), 0);
        due("22: no deeds", new EachUndoes().drawn(3, 6, 1), 0);
        due("22: nobody", village("0;1;2", 0, 1, 1, 0, 2, 0, 3, 0, 4, 0, 5, 0).drawn(1, 6, 1), 0);
        EachUndoes ten = village(TWELVE.replace("0", "5"),
            5, 0, 5, 0, 5, 0, 5, 0, 5, 0, 5, 0, 5, 0, 5, 0, 5, 0, 5, 0);
        boolean two = false;
        for (int seed = 0; seed < 20; seed++) {
            int done = ten.drawn(seed, 6, 1);
            CHECK.isTrue("22: twelve at most", done <= 2);
            two |= done == 2;
        }
        CHECK.isTrue("22: twelve can be", two);
    }

    private static void promise23Sheet() {
        EachUndoes x = new EachUndoes();
        due("23: sheet(-1, 0, 1)", x.sheet(-1, 0, 1), -2);
        due("23: sheet(4, 0, 1)", x.sheet(4, 0, 1), -2);
        due("23: sheet(0, -1, 1)", x.sheet(0, -1, 1), -2);
        due("23: sheet(0, 3, 1)", x.sheet(0, 3, 1), -2);
        due("23: sheet(0, 0, 61)", x.sheet(0, 0, 61), -2);
        due("23: sheet(4, 0, -1)", x.sheet(4, 0, -1), -2);
        due("23: sheet(0, 3, -1)", x.sheet(0, 3, -1), -2);
        due("23: no finding", x.count(8), 0);
        due("23: sheet(0, 0, -1)", x.sheet(0, 0, -1), -15);
        due("23: sheet(0, 0, least)", x.sheet(0, 0, LEAST), -15);
        due("23: the finding", x.count(8), 5);
        due("23: still lost", x.lose(0), -11);
        due("23: sheet(3, 2, 60)", x.sheet(3, 2, 60), 60);
        for (int i = 0; i < 60; i++) {
            due("23: item " + i, x.get(3, 2, i), 0);
            x.lay(3, 2, i, i + 1);
        }
        due("23: refused, so as it was", x.sheet(3, 2, 61) * 100 + x.get(3, 2, 59), -140);
        due("23: of size below 0, so as it was", x.sheet(3, 2, -1) * 100 + x.get(3, 2, 59), -1440);
        due("23: new", x.sheet(3, 1, 59), 59);
        for (int i = 0; i < 59; i++) {
            due("23: new item " + i, x.get(3, 1, i), 0);
        }
        due("23: sheet(3, 0, 0)", x.sheet(3, 0, 0), 0);
        due("23: it is not lost", x.lose(3), 0);
    }

    private static void promise24Lose() {
        EachUndoes x = new EachUndoes();
        due("24: lose(-1)", x.lose(-1), -2);
        due("24: lose(4)", x.lose(4), -2);
        due("24: no finding", x.count(8), 0);
        due("24: lose(2) of a lost one", x.lose(2), -11);
        due("24: the finding", x.count(8), 1);
        x.sheet(2, 1, 17);
        x.lay(2, 1, 3, 5);
        due("24: lose(2)", x.lose(2), 17);
        due("24: lose(2) again", x.lose(2), -11);
        due("24: no item", x.get(2, 1, 3), LEAST);
        x.sheet(2, 1, 17);
        due("24: made anew", x.get(2, 1, 3), 0);
    }

    private static void promise25Lay() {
        EachUndoes x = new EachUndoes();
        x.sheet(0, 0, 2);
        x.sheet(1, 1, 2);
        x.sheet(2, 2, 2);
        int[] given = {127, 128, 255, 256, -129, 32767, 32768, 65535, 65536, -32769, MOST, LEAST, -1};
        for (int v : given) {
            for (int form = 0; form < 3; form++) {
                int want = form == 0 ? (byte) v : form == 1 ? (short) v : v;
                due("25: lay(" + form + ", " + form + ", 1, " + v + ")", x.lay(form, form, 1, v), 1);
                due("25: as form " + form + ", " + v, x.get(form, form, 1), want);
            }
        }
        due("25: no other item", x.get(0, 0, 0), 0);
        due("25: lay(-1, 0, 0, 0)", x.lay(-1, 0, 0, 0), -2);
        due("25: lay(4, 0, 0, 0)", x.lay(4, 0, 0, 0), -2);
        due("25: lay(0, -1, 0, 0)", x.lay(0, -1, 0, 0), -2);
        due("25: lay(3, 3, 0, 0)", x.lay(3, 3, 0, 0), -2);
        due("25: no finding", x.count(8), 0);
        due("25: of a lost one", x.lay(3, 0, -1, 0), -11);
        due("25: finding 1", x.count(8), 1);
        due("25: of another form", x.lay(0, 1, 2, 0), -13);
        due("25: finding 3", x.count(8), 3);
        due("25: lay(0, 0, 2, 0)", x.lay(0, 0, 2, 0), -12);
        due("25: finding 2", x.count(8), 2);
        due("25: lay(0, 0, -1, 0)", x.lay(0, 0, -1, 0), -12);
        due("25: lay(0, 0, least, 0)", x.lay(0, 0, LEAST, 0), -12);
        due("25: a well one leaves the finding", x.lay(0, 0, 0, 9) + x.count(8), 3);
    }

    private static void promise26Get() {
        EachUndoes x = new EachUndoes();
        x.sheet(1, 1, 3);
        x.lay(1, 1, 2, -300);
        due("26: get(1, 1, 2)", x.get(1, 1, 2), -300);
        due("26: get(-1, 1, 2)", x.get(-1, 1, 2), LEAST);
        due("26: get(4, 1, 2)", x.get(4, 1, 2), LEAST);
        due("26: get(1, -1, 2)", x.get(1, -1, 2), LEAST);
        due("26: get(0, 3, 2)", x.get(0, 3, 2), LEAST);
        due("26: no finding", x.count(8), 0);
        due("26: of a lost one", x.get(0, 1, 3), LEAST);
        due("26: finding 1", x.count(8), 1);
        due("26: of another form", x.get(1, 2, 3), LEAST);
        due("26: finding 3", x.count(8), 3);
        due("26: of no such item", x.get(1, 1, 3), LEAST);
        due("26: finding 2", x.count(8), 2);
        due("26: of item -1", x.get(1, 1, -1), LEAST);
    }

    private static void promise27Copy() {
        EachUndoes x = new EachUndoes();
        x.sheet(0, 1, 6);
        x.sheet(1, 1, 3);
        x.sheet(2, 2, 3);
        for (int i = 0; i < 6; i++) {
            x.lay(0, 1, i, i + 1);
        }
        due("27: copy(-1, 0, 0, 0, 0)", x.copy(-1, 0, 0, 0, 0), -2);
        due("27: copy(0, 0, 4, 0, 0)", x.copy(0, 0, 4, 0, 0), -2);
        due("27: copy(4, 0, 3, 0, 0)", x.copy(4, 0, 3, 0, 0), -2);
        due("27: no finding", x.count(8), 0);
        due("27: from a lost one", x.copy(3, -1, 2, 0, 0), -11);
        due("27: to a lost one", x.copy(0, -1, 3, 0, 0), -11);
        due("27: finding 1", x.count(8), 1);
        due("27: unlike forms", x.copy(0, -1, 2, 0, 0), -14);
        due("27: finding 4", x.count(8), 4);
        due("27: i below 0", x.copy(0, -1, 1, 0, 1), -12);
        due("27: finding 2", x.count(8), 2);
        due("27: j below 0", x.copy(0, 0, 1, -1, 1), -12);
        due("27: n below 0", x.copy(0, 0, 1, 0, -1), -12);
        due("27: not so many there", x.copy(0, 4, 1, 0, 3), -12);
        due("27: not so many here", x.copy(0, 0, 1, 1, 3), -12);
        due("27: more than any", x.copy(0, 1, 1, 1, MOST), -12);
        due("27: i above any", x.copy(0, MOST, 1, 0, MOST), -12);
        due("27: none, at the end", x.copy(0, 6, 1, 3, 0), 1);
        due("27: none, i above", x.copy(0, 7, 1, 3, 0), -12);
        due("27: none, j above", x.copy(0, 6, 1, 4, 0), -12);
        due("27: nothing changed", x.get(1, 1, 0), 0);
        due("27: copy(0, 3, 1, 1, 2)", x.copy(0, 3, 1, 1, 2), 1);
        due("27: as they came", x.get(1, 1, 0) * 100 + x.get(1, 1, 1) * 10 + x.get(1, 1, 2), 45);
        due("27: onto itself, on", x.copy(0, 0, 0, 1, 5), 1);
        for (int i = 0; i < 6; i++) {
            due("27: on, item " + i, x.get(0, 1, i), i == 0 ? 1 : i);
        }
        due("27: onto itself, back", x.copy(0, 2, 0, 0, 4), 1);
        int[] want = {2, 3, 4, 5, 4, 5};
        for (int i = 0; i < 6; i++) {
            due("27: back, item " + i, x.get(0, 1, i), want[i]);
        }
    }

    private static void promise28Write() {
        EachUndoes x = village("0;1;2b;3a!;4cd", 5, 1, 4, 3);
        due("28: write(-1)", x.write(-1), -2);
        due("28: write(4)", x.write(4), -2);
        due("28: no finding", x.count(8), 0);
        due("28: of a lost one", x.write(1), -11);
        due("28: the finding", x.count(8), 1);
        int[] want = {-1, 1, 1, 3, 1, 77, 77};
        for (int form = 0; form < 3; form++) {
            x.sheet(form, form, 7);
            for (int i = 0; i < 7; i++) {
                x.lay(form, form, i, 77);
            }
            due("28: write, form " + form, x.write(form), 5);
            for (int i = 0; i < 7; i++) {
                due("28: form " + form + ", item " + i, x.get(form, form, i), want[i]);
            }
        }
        x.sheet(0, 0, 2);
        due("28: two items", x.write(0), 2);
        due("28: the second", x.get(0, 0, 1), 1);
        x.sheet(0, 0, 0);
        due("28: no items", x.write(0), 0);
        x.wipe();
        due("28: no deeds", x.write(1), 0);
    }

    private static void promise29Count() {
        EachUndoes x = village("0!;1a;2a!;3", 5, 0, 0, 0, 4, 12, 3, 14, 2, 3);
        x.seen(0, 1);
        x.seen(0, 0);
        x.sheet(0, 0, -1);
        int[] want = {4, 11, 5, 1, 3, 1, 2, 2, 5};
        for (int what = 0; what < want.length; what++) {
            due("29: count(" + what + ")", x.count(what), want[what]);
        }
        due("29: count(-1)", x.count(-1), -2);
        due("29: count(9)", x.count(9), -2);
        due("29: count(most)", x.count(MOST), -2);
        due("29: a refusal leaves the finding", x.count(8), 5);
    }

    /** The digest's order, asked call by call. */
    private static long digestOf(EachUndoes x) {
        long h = 17;
        for (int what = 0; what < 8; what++) {
            h = 31 * h + x.count(what);
        }
        h = 31 * (31 * h + x.fault()) + x.judged();
        for (int d = 0; d < x.count(0); d++) {
            for (int what = 0; what < 3; what++) {
                h = 31 * h + x.deed(d, what);
            }
            h = 31 * h + x.root(d);
        }
        for (int u = 0; u < x.count(2); u++) {
            h = 31 * (31 * h + x.holds(u)) + x.by(u);
            h = 31 * (31 * h + x.without(u, 0)) + x.without(u, 1);
        }
        for (int k = 0; k <= x.count(2); k++) {
            h = 31 * (31 * h + x.state(k, 0)) + x.state(k, 1);
        }
        h = 31 * (31 * h + x.fewest(1, 2, 2, 0)) + x.fewest(1, 2, 2, 1);
        h = 31 * (31 * (31 * h + x.safe(0)) + x.safe(1)) + x.safe(2);
        for (int what = 0; what < 4; what++) {
            h = 31 * h + x.last(0, 1, what);
        }
        h = 31 * h + x.often();
        return 31 * (31 * h + x.drawn(7, 3, 0)) + x.drawn(7, 3, 1);
    }

    private static void promise30Digest() {
        EachUndoes fresh = new EachUndoes();
        due("30: of a new one", fresh.digest(), digestOf(fresh));
        EachUndoes x = village("0;1;2;3ab!;4d;5c", 2, 0, 3, 12, 3, 1, 5, 13);
        x.worth(0, 0, 3);
        x.worth(0, 4, -5);
        x.worth(1, 1, -3);
        x.worth(1, 2, -4);
        x.seen(0, 1);
        due("30: of one with all", x.digest(), digestOf(x));
        due("30: again", x.digest(), digestOf(x));
        long before = x.digest();
        x.lose(0);
        due("30: without the finding", x.digest(), before);
        due("30: nor does it find", x.count(8), 1);
        x.type(';');
        due("30: with a fault", x.digest(), digestOf(x));
        for (int people = 2; people <= 6; people++) {
            EachUndoes y = village("0;1;2;3;4;5;0;1;2;3;4;5".substring(0, 4 * people - 1), 5, 0);
            due("30: of deeds by " + people, y.digest(), digestOf(y));
        }
    }

    public static void main(String[] args) {
        promise1NewObject();
        promise2Type();
        promise3Wipe();
        promise4Fault();
        promise5Deed();
        promise6Undoes();
        promise7Read();
        promise8Undo();
        promise9Worth();
        promise10Judged();
        promise11Holds();
        promise12State();
        promise13Root();
        promise14By();
        promise15Without();
        promise16Fewest();
        promise17Safe();
        promise18Last();
        promise19Seen();
        promise20Forget();
        promise21Often();
        promise22Drawn();
        promise23Sheet();
        promise24Lose();
        promise25Lay();
        promise26Get();
        promise27Copy();
        promise28Write();
        promise29Count();
        promise30Digest();
        CHECK.end();
    }
}
