/** All short texts and long runs of drawn calls, each asked of EachUndoes and of PlainVillage. */
public final class ModelTest {
    private static final int RUNS = 150;
    private static final int DIGESTS = 12;

    private static final Check CHECK = new Check("ModelTest");

    private final Lots lots;
    private final int run;
    private final EachUndoes x = new EachUndoes();
    private final PlainVillage plain = new PlainVillage();
    private int calls;

    private ModelTest(int run) {
        this.run = run;
        lots = new Lots(run);
    }

    private void same(String call, long got, long want) {
        calls++;
        CHECK.due("run " + run + ", call " + calls + ": " + call, got, want);
    }

    private int near(int least, int most) {
        if (lots.oneIn(40)) {
            return lots.oneIn(2) ? least - 1 - lots.below(3) : most + 1 + lots.below(3);
        }
        if (lots.oneIn(200)) {
            return lots.oneIn(2) ? Integer.MIN_VALUE : Integer.MAX_VALUE;
        }
        return lots.from(least, most);
    }

    private void type(int b) {
        same("type(" + b + ")", x.type(b), plain.type(b));
    }

    private void typeDeeds() {
        same("wipe()", x.wipe(), plain.wipe());
        int deeds = lots.oneIn(4) ? lots.from(0, 13) : lots.from(5, 12);
        int mostSources = lots.from(0, 3);
        for (int d = 0; d < deeds; d++) {
            if (d > 0) {
                type(';');
            }
            type('0' + lots.below(6));
            int left = lots.from(0, mostSources);
            for (int source = lots.below(3); source < d && left > 0; source += 1 + lots.below(4)) {
                type('a' + source);
                left--;
            }
            if (lots.oneIn(4)) {
                type('!');
            }
            if (lots.oneIn(150)) {
                type("05;!albcd6 /:`m~".charAt(lots.below(16)));
            }
        }
        if (lots.oneIn(20)) {
            type(lots.oneIn(2) ? ';' : near(0, 255));
        }
        same("fault()", x.fault(), plain.fault());
    }

    private void undoSome() {
        int total = plain.count(2);
        int person = near(0, 5);
        int thing = lots.oneIn(2) && total > 0 ? 12 + lots.below(Math.min(12, total + 1)) : near(0, 23);
        same("undoes(" + person + ", " + thing + ")", x.undoes(person, thing), plain.undoes(person, thing));
    }

    private void change() {
        switch (lots.below(20)) {
            case 0 -> typeDeeds();
            case 1 -> type(near(0, 255));
            case 2, 3, 4 -> same("undo()", x.undo(), plain.undo());
            case 5, 6, 7 -> {
                int person = near(0, 5);
                int deed = near(0, 11);
                int v = near(-9, 9);
                same("worth(" + person + ", " + deed + ", " + v + ")", x.worth(person, deed, v),
                    plain.worth(person, deed, v));
            }
            case 8, 9 -> {
                int deed = near(0, 11);
                int is = near(0, 1);
                same("seen(" + deed + ", " + is + ")", x.seen(deed, is), plain.seen(deed, is));
            }
            case 10 -> {
                if (lots.oneIn(2)) {
                    same("forget()", x.forget(), plain.forget());
                }
            }
            case 11, 12, 13 -> changeSheets();
            default -> undoSome();
        }
    }

    private void changeSheets() {
        int s = near(0, 3);
        int form = near(0, 2);
        int n = lots.oneIn(2) ? near(0, 60) : near(0, 8);
        int i = near(0, 8);
        switch (lots.below(8)) {
            case 0, 1 -> same("sheet(" + s + ", " + form + ", " + n + ")", x.sheet(s, form, n),
                plain.sheet(s, form, n));
            case 2 -> same("read(" + s + ")", x.read(s), plain.read(s));
            case 3 -> same("write(" + s + ")", x.write(s), plain.write(s));
            case 4 -> {
                int t = near(0, 3);
                int j = near(0, 8);
                int many = near(0, 5);
                same("copy(" + s + ", " + i + ", " + t + ", " + j + ", " + many + ")", x.copy(s, i, t, j, many),
                    plain.copy(s, i, t, j, many));
            }
            case 5 -> {
                if (lots.oneIn(3)) {
                    same("lose(" + s + ")", x.lose(s), plain.lose(s));
                }
            }
            default -> {
                int v = lots.oneIn(3) ? lots.from(-70000, 70000) : near(0, 23);
                same("lay(" + s + ", " + form + ", " + i + ", " + v + ")", x.lay(s, form, i, v),
                    plain.lay(s, form, i, v));
            }
        }
        same("get(" + s + ", " + form + ", " + i + ")", x.get(s, form, i), plain.get(s, form, i));
        same("count(8)", x.count(8), plain.count(8));
    }

    private void ask() {
        int k = near(0, 12);
        int what = near(0, 2);
        int n = near(0, 2);
        switch (lots.below(12)) {
            case 0 -> same("deed(" + k + ", " + what + ")", x.deed(k, what), plain.deed(k, what));
            case 1 -> same("holds(" + k + ")", x.holds(k), plain.holds(k));
            case 2 -> same("state(" + k + ", " + what + ")", x.state(k, what), plain.state(k, what));
            case 3 -> same("root(" + k + ")", x.root(k), plain.root(k));
            case 4 -> same("by(" + k + ")", x.by(k), plain.by(k));
            case 5 -> same("without(" + k + ", " + what + ")", x.without(k, what), plain.without(k, what));
            case 6 -> same("often()", x.often(), plain.often());
            case 7 -> {
                int seed = lots.oneIn(2) ? lots.below(100) : lots.below(Integer.MAX_VALUE) * 7;
                int many = near(0, 6);
                same("drawn(" + seed + ", " + many + ", " + what + ")", x.drawn(seed, many, what),
                    plain.drawn(seed, many, what));
            }
            case 8, 9 -> askFewest(n, what);
            case 10 -> same("safe(" + n + ")", x.safe(n), plain.safe(n));
            default -> {
                int a = near(0, 5);
                int b = near(0, 5);
                int which = near(0, 3);
                same("last(" + a + ", " + b + ", " + which + ")", x.last(a, b, which), plain.last(a, b, which));
            }
        }
    }

    private void askFewest(int n, int what) {
        int stand = lots.below(4096) & lots.below(4096) & lots.below(4096);
        int fell = lots.below(4096) & lots.below(4096) & lots.below(4096);
        if (!lots.oneIn(10)) {
            fell &= ~stand;
        }
        if (lots.oneIn(30)) {
            stand = near(0, 4095);
        }
        same("fewest(" + stand + ", " + fell + ", " + n + ", " + what + ")", x.fewest(stand, fell, n, what),
            plain.fewest(stand, fell, n, what));
    }

    private void go() {
        same("digest()", x.digest(), plain.digest());
        typeDeeds();
        int early = lots.from(0, 11);
        for (int i = 0; i < early; i++) {
            undoSome();
        }
        for (int d = 0; d < 12; d++) {
            int v = lots.from(-9, 9);
            int person = lots.below(6);
            same("worth(" + person + ", " + d + ", " + v + ")", x.worth(person, d, v), plain.worth(person, d, v));
        }
        int between = 360 / DIGESTS;
        for (int i = 1; i <= 360; i++) {
            if (lots.oneIn(4)) {
                change();
            } else {
                ask();
            }
            if (i % between == 0) {
                same("digest()", x.digest(), plain.digest());
            }
        }
    }

    /** Every text of up to five of the bytes that matter: its fault, and how many deeds it tells. */
    private static void allShortTexts() {
        String bytes = "05ab;!6l";
        for (int length = 0; length <= 5; length++) {
            for (int number = 0; number < 1 << 3 * length; number++) {
                EachUndoes x = new EachUndoes();
                PlainVillage plain = new PlainVillage();
                StringBuilder text = new StringBuilder();
                for (int i = 0; i < length; i++) {
                    char b = bytes.charAt(number >> 3 * i & 7);
                    text.append(b);
                    x.type(b);
                    plain.type(b);
                }
                CHECK.due("fault of " + text, x.fault(), plain.fault());
                CHECK.due("deeds of " + text, x.count(0), plain.count(0));
            }
        }
    }

    public static void main(String[] args) {
        allShortTexts();
        for (int run = 0; run < RUNS; run++) {
            new ModelTest(run).go();
        }
        CHECK.end();
    }
}
