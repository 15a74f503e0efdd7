import java.util.ArrayList;
import java.util.List;
import java.util.Set;
import java.util.TreeSet;

/**
 * The document once more, told as its words go and in no hurry: every more undoing is truly told, by every person,
 * and what holds, fell and where it came from is followed by recursion. It shares nothing with EachUndoes.
 */
final class PlainVillage {
    record Deed(int doer, Set<Integer> cameOf, boolean own) { }

    record Undoing(int person, int thing) { }

    record Seen(int deed, boolean stood) { }

    private static final class Row {
        int form;
        int[] items;
    }

    private final StringBuilder text = new StringBuilder();
    private List<Undoing> told = new ArrayList<>();
    private final List<Seen> seen = new ArrayList<>();
    private final int[][] worth = new int[6][12];
    private final Row[] rows = new Row[4];
    private int finding;

    // ---- the text

    /** Whether a text of whole deeds or the beginning of such. */
    private static boolean goesOn(String prefix, boolean whole) {
        String[] parts = prefix.split(";", -1);
        for (int i = 0; i < parts.length; i++) {
            boolean mustBeWhole = whole || i < parts.length - 1;
            if (parts[i].isEmpty() && !mustBeWhole) {
                continue;
            }
            if (i >= 12 || !parts[i].matches("[0-5][a-l]{0,3}!?")) {
                return false;
            }
            for (int c = 1; c < parts[i].length() && parts[i].charAt(c) != '!'; c++) {
                boolean ahead = parts[i].charAt(c) - 'a' < i;
                boolean rising = c == 1 || parts[i].charAt(c) > parts[i].charAt(c - 1);
                if (!ahead || !rising) {
                    return false;
                }
            }
        }
        return true;
    }

    int fault() {
        for (int at = 0; at < text.length(); at++) {
            if (!goesOn(text.substring(0, at + 1), false)) {
                return at;
            }
        }
        return text.length() == 0 || goesOn(text.toString(), true) ? -1 : text.length();
    }

    private List<Deed> deeds() {
        List<Deed> deeds = new ArrayList<>();
        if (text.length() == 0 || fault() != -1) {
            return deeds;
        }
        for (String part : text.toString().split(";")) {
            Set<Integer> cameOf = new TreeSet<>();
            part.chars().filter(c -> c >= 'a').forEach(c -> cameOf.add(c - 'a'));
            deeds.add(new Deed(part.charAt(0) - '0', cameOf, part.endsWith("!")));
        }
        return deeds;
    }

    // ---- the law, and what stands

    /** A telling of undoings, some of them perhaps skipped as if not told. */
    private static final class World {
        final List<Deed> deeds;
        final List<Undoing> told;
        final int skipped;

        World(List<Deed> deeds, List<Undoing> told, int skipped) {
            this.deeds = deeds;
            this.told = told;
            this.skipped = skipped;
        }

        boolean mayBe(int at, Undoing undoing) {
            for (int i = 0; i < at; i++) {
                if (told.get(i).person() == undoing.person() && byLaw(i)) {
                    return false;
                }
            }
            int thing = undoing.thing();
            if (thing < 12) {
                return thing < deeds.size() && deeds.get(thing).doer() != undoing.person();
            }
            return thing - 12 < at && byLaw(thing - 12) && told.get(thing - 12).person() != undoing.person();
        }

        private Boolean[] known = new Boolean[24];

        boolean byLaw(int i) {
            if (known[i] == null) {
                known[i] = i != skipped && mayBe(i, told.get(i));
            }
            return known[i];
        }

        boolean holds(int i) {
            if (!byLaw(i)) {
                return false;
            }
            for (int j = i + 1; j < told.size(); j++) {
                if (told.get(j).thing() == 12 + i && holds(j)) {
                    return false;
                }
            }
            return true;
        }

        boolean isUndone(int deed) {
            for (int i = 0; i < told.size(); i++) {
                if (told.get(i).thing() == deed && holds(i)) {
                    return true;
                }
            }
            return false;
        }

        boolean fell(int deed) {
            if (isUndone(deed)) {
                return true;
            }
            if (!deeds.get(deed).own()) {
                for (int source : deeds.get(deed).cameOf()) {
                    if (fell(source)) {
                        return true;
                    }
                }
            }
            return false;
        }

        boolean stands(int deed) {
            return deed < deeds.size() && !fell(deed);
        }

        int standing() {
            int bits = 0;
            for (int d = 0; d < deeds.size(); d++) {
                bits += stands(d) ? 1 << d : 0;
            }
            return bits;
        }

        boolean leadsTo(int from, int deed) {
            if (from == deed) {
                return true;
            }
            for (int next = from + 1; next <= deed; next++) {
                if (deeds.get(next).cameOf().contains(from) && !deeds.get(next).own() && leadsTo(next, deed)) {
                    return true;
                }
            }
            return false;
        }

        int root(int deed) {
            for (int d = 0; d <= deed; d++) {
                if (isUndone(d) && leadsTo(d, deed)) {
                    return d;
                }
            }
            return -1;
        }

        boolean mayStill(int person) {
            for (int i = 0; i < told.size(); i++) {
                if (told.get(i).person() == person && byLaw(i)) {
                    return false;
                }
            }
            return true;
        }

        int still() {
            int bits = 0;
            for (int p = 0; p < 6; p++) {
                bits += mayStill(p) ? 1 << p : 0;
            }
            return bits;
        }

        boolean mayComeNext(Undoing undoing) {
            return told.size() < 12 && mayBe(told.size(), undoing);
        }

        World with(Undoing undoing) {
            List<Undoing> more = new ArrayList<>(told);
            more.add(undoing);
            return new World(deeds, more, skipped);
        }

        List<Undoing> next() {
            List<Undoing> next = new ArrayList<>();
            for (int p = 0; p < 6; p++) {
                for (int t = 0; t < 24; t++) {
                    Undoing undoing = new Undoing(p, t);
                    if (mayComeNext(undoing)) {
                        next.add(undoing);
                    }
                }
            }
            return next;
        }
    }

    private World world() {
        return new World(deeds(), told, -1);
    }

    private World behind(int k) {
        return new World(deeds(), told.subList(0, k), -1);
    }

    // ---- the calls

    private static boolean out(int number, int least, int most) {
        return number < least || number > most;
    }

    private int found(int number) {
        finding = number;
        return -10 - number;
    }

    int type(int b) {
        if (out(b, 0, 255)) {
            return -2;
        }
        if (text.length() == 60) {
            return -4;
        }
        text.append((char) b);
        return text.length();
    }

    int wipe() {
        int had = text.length();
        text.setLength(0);
        return had;
    }

    int deed(int deed, int what) {
        List<Deed> deeds = deeds();
        if (out(deed, 0, deeds.size() - 1) || out(what, 0, 2)) {
            return -2;
        }
        Deed one = deeds.get(deed);
        int bits = 0;
        for (int source : one.cameOf()) {
            bits += 1 << source;
        }
        return what == 0 ? one.doer() : what == 1 ? bits : one.own() ? 1 : 0;
    }

    int undoes(int person, int thing) {
        if (out(person, 0, 5) || out(thing, 0, 23)) {
            return -2;
        }
        if (told.size() == 12) {
            return -4;
        }
        told.add(new Undoing(person, thing));
        return told.size();
    }

    int read(int s) {
        if (out(s, 0, 3)) {
            return -2;
        }
        if (rows[s] == null) {
            return found(1);
        }
        int[] items = rows[s].items;
        int came = 0;
        for (int i = 0; i + 2 <= items.length; i += 2) {
            if (undoes(items[i], items[i + 1]) < 0) {
                return came;
            }
            came++;
        }
        return came;
    }

    int undo() {
        if (told.isEmpty()) {
            return -3;
        }
        told.remove(told.size() - 1);
        return told.size();
    }

    int worth(int person, int deed, int v) {
        if (out(person, 0, 5) || out(deed, 0, 11) || out(v, -9, 9)) {
            return -1002;
        }
        int was = worth[person][deed];
        worth[person][deed] = v;
        return was;
    }

    int judged() {
        World world = world();
        for (int i = 0; i < told.size(); i++) {
            if (!world.byLaw(i)) {
                return i;
            }
        }
        return -1;
    }

    int holds(int undoing) {
        if (out(undoing, 0, told.size() - 1)) {
            return -2;
        }
        return world().holds(undoing) ? 1 : 0;
    }

    int state(int k, int what) {
        if (out(k, 0, told.size()) || out(what, 0, 1)) {
            return -2;
        }
        return what == 0 ? behind(k).standing() : behind(k).still();
    }

    int root(int deed) {
        return out(deed, 0, deeds().size() - 1) ? -2 : world().root(deed);
    }

    int by(int undoing) {
        if (out(undoing, 0, told.size() - 1)) {
            return -2;
        }
        int bits = 0;
        for (int d = 0; d < deeds().size(); d++) {
            bits += behind(undoing).stands(d) != behind(undoing + 1).stands(d) ? 1 << d : 0;
        }
        return bits;
    }

    int without(int undoing, int what) {
        if (out(undoing, 0, told.size() - 1) || out(what, 0, 1)) {
            return -2;
        }
        World then = new World(deeds(), told, undoing);
        if (what == 0) {
            return then.standing();
        }
        for (int d = 0; d < deeds().size(); d++) {
            if (then.stands(d) != world().stands(d)) {
                return d;
            }
        }
        return -1;
    }

    private static boolean isSo(World world, int stand, int fell) {
        for (int d = 0; d < world.deeds.size(); d++) {
            boolean stands = world.stands(d);
            if ((stand >> d & 1) == 1 && !stands || (fell >> d & 1) == 1 && stands) {
                return false;
            }
        }
        return true;
    }

    /** The first (least) of exactly so many more by which things are so, by trying all; null. */
    private static Undoing leastFirst(World world, int stand, int fell, int many) {
        for (Undoing first : world.next()) {
            World then = world.with(first);
            if (many == 1 ? isSo(then, stand, fell) : leastFirst(then, stand, fell, many - 1) != null) {
                return first;
            }
        }
        return null;
    }

    int fewest(int stand, int fell, int n, int what) {
        if (out(stand, 0, 4095) || out(fell, 0, 4095) || (stand & fell) != 0 || out(n, 0, 2) || out(what, 0, 1)) {
            return -2;
        }
        if (isSo(world(), stand, fell)) {
            return what == 0 ? 0 : -1;
        }
        for (int many = 1; many <= n; many++) {
            Undoing first = leastFirst(world(), stand, fell, many);
            if (first != null) {
                return what == 0 ? many : 24 * first.person() + first.thing();
            }
        }
        return -1;
    }

    private static int safe(World world, int n) {
        int bits = world.standing();
        if (n > 0) {
            for (Undoing undoing : world.next()) {
                bits &= safe(world.with(undoing), n - 1);
            }
        }
        return bits;
    }

    int safe(int n) {
        return out(n, 0, 2) ? -2 : safe(world(), n);
    }

    private int total(World world, int person) {
        int sum = 0;
        for (int d = 0; d < world.deeds.size(); d++) {
            sum += world.stands(d) ? worth[person][d] : 0;
        }
        return sum;
    }

    /** What a person and those behind play: the thing of each (-1: not), from this one on. */
    private List<Integer> play(World world, List<Integer> persons) {
        if (persons.isEmpty()) {
            return List.of();
        }
        int person = persons.get(0);
        List<Integer> best = null;
        int most = 0;
        for (int thing = -1; thing < 24; thing++) {
            Undoing undoing = new Undoing(person, thing);
            if (thing >= 0 && !world.mayComeNext(undoing)) {
                continue;
            }
            List<Integer> line = new ArrayList<>();
            line.add(thing);
            line.addAll(play(thing < 0 ? world : world.with(undoing), persons.subList(1, persons.size())));
            int sum = total(end(world, persons, line), person);
            if (best == null || sum > most) {
                best = line;
                most = sum;
            }
        }
        return best;
    }

    private static World end(World world, List<Integer> persons, List<Integer> line) {
        World end = world;
        for (int i = 0; i < line.size(); i++) {
            end = line.get(i) < 0 ? end : end.with(new Undoing(persons.get(i), line.get(i)));
        }
        return end;
    }

    int last(int a, int b, int what) {
        if (out(a, 0, 5) || out(b, 0, 5) || a == b || out(what, 0, 3)) {
            return -1002;
        }
        List<Integer> line = play(world(), List.of(a, b));
        if (what >= 2) {
            return line.get(what - 2);
        }
        return total(end(world(), List.of(a, b), line), what == 0 ? a : b);
    }

    int seen(int deed, int is) {
        if (out(deed, 0, 11) || out(is, 0, 1)) {
            return -2;
        }
        if (seen.size() == 8) {
            return -4;
        }
        seen.add(new Seen(deed, is == 1));
        return seen.size();
    }

    int forget() {
        int had = seen.size();
        seen.clear();
        return had;
    }

    int often() {
        int bits = 0;
        for (int k = 0; k <= told.size(); k++) {
            World world = behind(k);
            bits += seen.stream().allMatch(one -> world.stands(one.deed()) == one.stood()) ? 1 << k : 0;
        }
        return bits;
    }

    private static int lot(int[] seed, int m) {
        seed[0] = (int) (1103515245L * seed[0] + 12345L);
        return (int) ((seed[0] & 0xFFFFFFFFL) / 65536 % m);
    }

    int drawn(int start, int n, int what) {
        if (out(n, 0, 6) || out(what, 0, 1)) {
            return -2;
        }
        int[] seed = {start};
        World world = world();
        int done = 0;
        while (done < n && world.told.size() < 12) {
            List<Integer> persons = new ArrayList<>();
            for (int p = 0; p < 6; p++) {
                if (world.mayStill(p)) {
                    persons.add(p);
                }
            }
            if (persons.isEmpty()) {
                break;
            }
            int person = persons.get(lot(seed, persons.size()));
            List<Integer> others = new ArrayList<>();
            for (int d = 0; d < world.deeds.size(); d++) {
                if (world.stands(d) && world.deeds.get(d).doer() != person) {
                    others.add(d);
                }
            }
            if (others.isEmpty()) {
                break;
            }
            world = world.with(new Undoing(person, others.get(lot(seed, others.size()))));
            done++;
        }
        return what == 0 ? world.standing() : done;
    }

    int sheet(int s, int form, int n) {
        if (out(s, 0, 3) || out(form, 0, 2) || n > 60) {
            return -2;
        }
        if (n < 0) {
            return found(5);
        }
        rows[s] = new Row();
        rows[s].form = form;
        rows[s].items = new int[n];
        return n;
    }

    int lose(int s) {
        if (out(s, 0, 3)) {
            return -2;
        }
        if (rows[s] == null) {
            return found(1);
        }
        int had = rows[s].items.length;
        rows[s] = null;
        return had;
    }

    private static int fitted(int form, int v) {
        int spare = form == 0 ? 24 : form == 1 ? 16 : 0;
        return v << spare >> spare;
    }

    private int wrongAt(int s, int form, int i) {
        if (rows[s] == null) {
            return 1;
        }
        return rows[s].form != form ? 3 : out(i, 0, rows[s].items.length - 1) ? 2 : 0;
    }

    int lay(int s, int form, int i, int v) {
        if (out(s, 0, 3) || out(form, 0, 2)) {
            return -2;
        }
        int wrong = wrongAt(s, form, i);
        if (wrong != 0) {
            return found(wrong);
        }
        rows[s].items[i] = fitted(form, v);
        return 1;
    }

    int get(int s, int form, int i) {
        if (out(s, 0, 3) || out(form, 0, 2)) {
            return Integer.MIN_VALUE;
        }
        int wrong = wrongAt(s, form, i);
        if (wrong != 0) {
            found(wrong);
            return Integer.MIN_VALUE;
        }
        return rows[s].items[i];
    }

    int copy(int s, int i, int t, int j, int n) {
        if (out(s, 0, 3) || out(t, 0, 3)) {
            return -2;
        }
        if (rows[s] == null || rows[t] == null) {
            return found(1);
        }
        if (rows[s].form != rows[t].form) {
            return found(4);
        }
        boolean below = i < 0 || j < 0 || n < 0;
        if (below || (long) i + n > rows[s].items.length || (long) j + n > rows[t].items.length) {
            return found(2);
        }
        int[] asTheyWere = rows[s].items.clone();
        for (int k = 0; k < n; k++) {
            rows[t].items[j + k] = asTheyWere[i + k];
        }
        return 1;
    }

    int write(int s) {
        if (out(s, 0, 3)) {
            return -2;
        }
        if (rows[s] == null) {
            return found(1);
        }
        int written = 0;
        while (written < rows[s].items.length && written < deeds().size()) {
            rows[s].items[written] = fitted(rows[s].form, root(written));
            written++;
        }
        return written;
    }

    int count(int what) {
        World world = world();
        int sum = 0;
        switch (what) {
            case 0: return deeds().size();
            case 1: return text.length();
            case 2: return told.size();
            case 3:
                for (int i = 0; i < told.size(); i++) {
                    sum += world.byLaw(i) ? 0 : 1;
                }
                return sum;
            case 4:
                for (int i = 0; i < told.size(); i++) {
                    sum += world.holds(i) ? 1 : 0;
                }
                return sum;
            case 5:
                for (int d = 0; d < deeds().size(); d++) {
                    sum += world.stands(d) ? 1 : 0;
                }
                return sum;
            case 6: return seen.size();
            case 7: return (int) deeds().stream().filter(Deed::own).count();
            case 8: return finding;
            default: return -2;
        }
    }

    long digest() {
        List<Integer> all = new ArrayList<>();
        for (int what = 0; what < 8; what++) {
            all.add(count(what));
        }
        all.addAll(List.of(fault(), judged()));
        for (int d = 0; d < deeds().size(); d++) {
            all.addAll(List.of(deed(d, 0), deed(d, 1), deed(d, 2), root(d)));
        }
        for (int u = 0; u < told.size(); u++) {
            all.addAll(List.of(holds(u), by(u), without(u, 0), without(u, 1)));
        }
        for (int k = 0; k <= told.size(); k++) {
            all.addAll(List.of(state(k, 0), state(k, 1)));
        }
        all.addAll(List.of(fewest(1, 2, 2, 0), fewest(1, 2, 2, 1), safe(0), safe(1), safe(2)));
        all.addAll(List.of(last(0, 1, 0), last(0, 1, 1), last(0, 1, 2), last(0, 1, 3)));
        all.addAll(List.of(often(), drawn(7, 3, 0), drawn(7, 3, 1)));
        long h = 17;
        for (int answer : all) {
            h = 31 * h + answer;
        }
        return h;
    }
}
