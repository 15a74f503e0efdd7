import java.util.ArrayList;
import java.util.LinkedHashMap;
import java.util.List;
import java.util.Map;
import java.util.function.Supplier;

/**
 * All that can be seen of a village from outside: what every question answers. Asking takes more calls than one
 * village may be used for and uses some of it up, so it is made anew for each part.
 */
final class Sight {
    private final Map<String, Long> answers = new LinkedHashMap<>();

    Sight(Supplier<Village> made) {
        seeWhatStands(made.get());
        seeMoreOfThese(made.get());
        seeWorthsAndSeen(made.get());
        for (int s = 0; s < 4; s++) {
            seeSheet(made.get(), s);
        }
    }

    /** The questions that the other one answers in another way. */
    List<String> unlike(Sight other) {
        List<String> unlike = new ArrayList<>();
        for (Map.Entry<String, Long> entry : answers.entrySet()) {
            if (!entry.getValue().equals(other.answers.get(entry.getKey()))) {
                unlike.add(entry.getKey());
            }
        }
        return unlike;
    }

    private void see(Village x, String call, int... given) {
        answers.put(Village.told(call, given), x.answer(call, given));
    }

    private void seeWhatStands(Village x) {
        for (int what = 0; what <= 8; what++) {
            see(x, "count", what);
        }
        for (String call : List.of("fault", "judged", "often", "digest")) {
            see(x, call);
        }
        for (int i = 0; i < 12; i++) {
            for (int what = 0; what < 3; what++) {
                see(x, "deed", i, what);
            }
            see(x, "root", i);
            see(x, "holds", i);
            see(x, "by", i);
            see(x, "without", i, 0);
            see(x, "without", i, 1);
        }
        for (int k = 0; k <= 12; k++) {
            see(x, "state", k, 0);
            see(x, "state", k, 1);
        }
    }

    private void seeMoreOfThese(Village x) {
        for (int n = 0; n <= 2; n++) {
            see(x, "safe", n);
            see(x, "fewest", 4095, 0, n, 0);
            see(x, "fewest", 4095, 0, n, 1);
            see(x, "fewest", 0, 4095, n, 0);
            see(x, "fewest", 0, 4095, n, 1);
            for (int d = 0; d < 12; d++) {
                see(x, "fewest", 0, 1 << d, n, 1);
            }
        }
        for (int a = 0; a < 6; a++) {
            for (int what = 0; what < 4; what++) {
                see(x, "last", a, (a + 1) % 6, what);
                see(x, "last", a, (a + 4) % 6, what);
            }
        }
        for (int seed = 0; seed < 5; seed++) {
            see(x, "drawn", seed, 6, 0);
            see(x, "drawn", seed, 6, 1);
        }
    }

    private void seeWorthsAndSeen(Village x) {
        for (int p = 0; p < 6; p++) {
            for (int d = 0; d < 12; d++) {
                see(x, "worth", p, d, 0);
            }
        }
        see(x, "forget");
        see(x, "undo");
        see(x, "wipe");
    }

    private void seeSheet(Village x, int s) {
        for (int form = 0; form < 3; form++) {
            for (int i = 0; i < 60; i++) {
                see(x, "get", s, form, i);
            }
        }
        see(x, "lose", s);
    }
}
