/** Wild numbers in wild states: every call must answer, refusals must change nothing. */
public final class StormTest {
    private static final int RUNS = 400;
    private static final int CALLS = 700;
    private static final Check CHECK = new Check("StormTest");
    private static final int[] EDGES = {
        Integer.MIN_VALUE, Integer.MIN_VALUE + 1, -4096, -61, -13, -10, -9, -2, -1, 0, 1, 2, 3, 4, 5, 6, 7, 8, 9, 10,
        11, 12, 13, 23, 24, 25, 31, 32, 33, 48, 59, 60, 61, 97, 127, 128, 255, 256, 4095, 4096, 32768, 65536,
        Integer.MAX_VALUE - 1, Integer.MAX_VALUE,
    };

    private final Lots lots;
    private final EachUndoes x = new EachUndoes();

    private StormTest(int run) {
        lots = new Lots(1000 + run);
    }

    private int any() {
        return lots.oneIn(3) ? lots.below(25) : EDGES[lots.below(EDGES.length)];
    }

    private int some(int bound) {
        return lots.oneIn(6) ? any() : lots.below(bound);
    }

    private long tell() {
        switch (lots.below(12)) {
            case 0: return x.wipe();
            case 1: return x.type(any());
            case 2: return x.undoes(some(6), some(24));
            case 3: return x.read(some(4));
            case 4: return x.undo();
            case 5: return x.worth(some(6), some(12), some(10));
            case 6: return x.seen(some(12), some(2));
            case 7: return lots.oneIn(4) ? x.forget() : x.undoes(some(6), 12 + some(12));
            default: return x.type("0123450123450123;;;;;;;;;abc!".charAt(lots.below(29)));
        }
    }

    private long ask() {
        switch (lots.below(13)) {
            case 0: return x.deed(some(12), some(3));
            case 1: return x.judged();
            case 2: return x.holds(some(12));
            case 3: return x.state(some(13), some(2));
            case 4: return x.root(some(12));
            case 5: return x.by(some(12));
            case 6: return x.without(some(12), some(2));
            case 7: return x.fewest(some(4096), some(4096), some(3), some(2));
            case 8: return x.safe(some(3));
            case 9: return x.last(some(6), some(6), some(4));
            case 10: return x.often();
            case 11: return x.drawn(any(), some(7), some(2));
            default: return x.count(some(9)) + x.fault();
        }
    }

    private long lay() {
        switch (lots.below(8)) {
            case 0: return x.sheet(some(4), some(3), some(61));
            case 1: return x.lose(some(4));
            case 2: return x.lay(some(4), some(3), some(60), any());
            case 3: return x.get(some(4), some(3), some(60));
            case 4: return x.copy(some(4), some(60), some(4), some(60), some(60));
            case 5: return x.write(some(4));
            case 6: return x.read(some(4));
            default: return x.lay(some(4), some(3), some(8), some(24));
        }
    }

    private void refusalsChangeNothing() {
        long before = x.digest();
        x.type(-1);
        x.undoes(6, 0);
        x.undoes(0, 24);
        x.worth(0, 0, 10);
        x.seen(0, 2);
        x.sheet(0, 0, 61);
        x.drawn(1, 7, 0);
        x.last(0, 0, 0);
        CHECK.due("digest() behind refusals", x.digest(), before);
        ask();
        CHECK.due("digest() behind a question", x.digest(), before);
    }

    private void go() {
        for (int call = 0; call < CALLS; call++) {
            int kind = lots.below(3);
            long answer = kind == 0 ? tell() : kind == 1 ? ask() : lay();
            CHECK.isTrue("an answer", answer == (int) answer);
        }
        refusalsChangeNothing();
    }

    public static void main(String[] args) {
        for (int run = 0; run < RUNS; run++) {
            new StormTest(run).go();
        }
        CHECK.end();
    }
}
