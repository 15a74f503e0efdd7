/** A village in which each may undo one deed of another's, once in a life; README.md tells more. */
public final class EachUndoes {
    public static final int NONE = -1, BAD = -2, NOT = -3, FULL = -4;

    // What answers as any number refuses with, so that it is not taken for one.
    private static final int BAD_NUMBER = -1000 + BAD;
    private static final int BAD_ITEM = -2147483648;
    private static final long BEFORE_DIGEST = 17;

    private static final int PERSONS = 6;
    private static final int EVERYBODY = (1 << PERSONS) - 1;
    private static final int MOST = 12;
    private static final int THINGS = 2 * MOST;
    private static final int DEED_SETS = 1 << MOST;
    private static final int BYTES = 60;
    private static final int BYTE_VALUES = 256;
    private static final int MOST_CAME_OF = 3;
    private static final int GREATEST_WORTH = 9;
    private static final int MOST_MORE = 2;
    private static final int MOST_DRAWN = 6;
    private static final int MOST_SEEN = 8;

    private static final int SHEETS = 4;
    private static final int FORMS = 3;
    private static final int ITEMS = 60;

    private static final int WELL = 0;
    private static final int NULL = 1;
    private static final int INDEX = 2;
    private static final int CAST = 3;
    private static final int STORE = 4;
    private static final int SIZE = 5;

    private final Outlook outlook = new Outlook();
    private final Undoings undoings = outlook.undoings;
    private final Deeds deeds = undoings.deeds;
    private final Sheet[] sheets = new Sheet[SHEETS];
    private int seenTotal;
    private int seenStanding;
    private int seenMissing;
    private int finding = WELL;

    public EachUndoes() {
        for (int s = 0; s < SHEETS; s++) {
            sheets[s] = new Sheet();
        }
    }

    // ---- deeds, undoings

    public int type(int b) {
        if (!isBelow(b, BYTE_VALUES)) {
            return BAD;
        }
        if (deeds.length >= BYTES) {
            return FULL;
        }
        return deeds.append(b);
    }

    public int wipe() {
        return deeds.clear();
    }

    public int fault() {
        return deeds.fault;
    }

    public int deed(int deed, int what) {
        if (!isBelow(deed, deeds.total) || !isBelow(what, 3)) {
            return BAD;
        }
        if (what == 0) {
            return deeds.doers[deed];
        }
        return what == 1 ? deeds.sources[deed] : bitOf(deeds.own, deed);
    }

    public int undoes(int person, int thing) {
        if (!isBelow(person, PERSONS) || !isBelow(thing, THINGS)) {
            return BAD;
        }
        return undoings.tell(person, thing) ? undoings.total : FULL;
    }

    public int read(int s) {
        if (!isBelow(s, SHEETS)) {
            return BAD;
        }
        Sheet sheet = sheets[s];
        if (sheet.isLost) {
            return found(NULL);
        }
        int came = 0;
        while (came < MOST && 2 * came + 1 < sheet.size) {
            int person = sheet.items[2 * came];
            int thing = sheet.items[2 * came + 1];
            if (!isBelow(person, PERSONS) || !isBelow(thing, THINGS) || !undoings.tell(person, thing)) {
                break;
            }
            came++;
        }
        return came;
    }

    public int undo() {
        if (undoings.total == 0) {
            return NOT;
        }
        undoings.total--;
        return undoings.total;
    }

    public int worth(int person, int deed, int v) {
        if (!isBelow(person, PERSONS) || !isBelow(deed, MOST)) {
            return BAD_NUMBER;
        }
        if (v < -GREATEST_WORTH || v > GREATEST_WORTH) {
            return BAD_NUMBER;
        }
        int before = outlook.worths[person][deed];
        outlook.worths[person][deed] = v;
        return before;
    }

    // ---- what stands

    public int judged() {
        int law = undoings.lawful(NONE);
        for (int i = 0; i < undoings.total; i++) {
            if (bitOf(law, i) == 0) {
                return i;
            }
        }
        return NONE;
    }

    public int holds(int undoing) {
        if (!isBelow(undoing, undoings.total)) {
            return BAD;
        }
        return bitOf(undoings.holding(undoings.lawful(NONE)), undoing);
    }

    public int state(int k, int what) {
        if (!isBelow(k, undoings.total + 1) || !isBelow(what, 2)) {
            return BAD;
        }
        return what == 0 ? standingBehind(k) : undoings.unspent(undoings.lawfulOfFirst(k));
    }

    public int root(int deed) {
        if (!isBelow(deed, deeds.total)) {
            return BAD;
        }
        return deeds.rootOf(deed, undoings.undone(undoings.lawful(NONE)));
    }

    public int by(int undoing) {
        if (!isBelow(undoing, undoings.total)) {
            return BAD;
        }
        return standingBehind(undoing) ^ standingBehind(undoing + 1);
    }

    public int without(int undoing, int what) {
        if (!isBelow(undoing, undoings.total) || !isBelow(what, 2)) {
            return BAD;
        }
        int then = undoings.standing(undoings.lawful(undoing));
        return what == 0 ? then : leastOf(then ^ standingBehind(undoings.total));
    }

    private int standingBehind(int k) {
        return undoings.standing(undoings.lawfulOfFirst(k));
    }

    // ---- more of these

    public int fewest(int stand, int fell, int n, int what) {
        if (!isBelow(stand, DEED_SETS) || !isBelow(fell, DEED_SETS) || (stand & fell) != 0) {
            return BAD;
        }
        if (!isBelow(n, MOST_MORE + 1) || !isBelow(what, 2)) {
            return BAD;
        }
        outlook.renew();
        if (outlook.isAsTold(outlook.standingWith(NONE, NONE), stand, fell)) {
            return what == 0 ? 0 : NONE;
        }
        for (int more = 1; more <= n; more++) {
            int first = outlook.leastFirst(stand, fell, more);
            if (first != NONE) {
                return what == 0 ? more : first;
            }
        }
        return NONE;
    }

    public int safe(int n) {
        if (!isBelow(n, MOST_MORE + 1)) {
            return BAD;
        }
        outlook.renew();
        return outlook.lasting(n);
    }

    public int last(int a, int b, int what) {
        if (!isBelow(a, PERSONS) || !isBelow(b, PERSONS) || a == b || !isBelow(what, 4)) {
            return BAD_NUMBER;
        }
        outlook.renew();
        int move = outlook.bestMove(a, b);
        int reply = outlook.bestReply(b, move);
        if (what >= 2) {
            return what == 2 ? move : reply;
        }
        return outlook.worthOf(outlook.standingWith(move, reply), what == 0 ? a : b);
    }

    // ---- seen, drawn

    public int seen(int deed, int is) {
        if (!isBelow(deed, MOST) || !isBelow(is, 2)) {
            return BAD;
        }
        if (seenTotal >= MOST_SEEN) {
            return FULL;
        }
        if (is == 1) {
            seenStanding |= 1 << deed;
        } else {
            seenMissing |= 1 << deed;
        }
        seenTotal++;
        return seenTotal;
    }

    public int forget() {
        int had = seenTotal;
        seenTotal = 0;
        seenStanding = 0;
        seenMissing = 0;
        return had;
    }

    public int often() {
        int numbers = 0;
        for (int k = 0; k <= undoings.total; k++) {
            int standing = standingBehind(k);
            if ((standing & seenStanding) == seenStanding && (standing & seenMissing) == 0) {
                numbers |= 1 << k;
            }
        }
        return numbers;
    }

    public int drawn(int seed, int n, int what) {
        if (!isBelow(n, MOST_DRAWN + 1) || !isBelow(what, 2)) {
            return BAD;
        }
        outlook.renew();
        outlook.draw(seed, n);
        return what == 0 ? deeds.standing(outlook.drawnDeeds) : outlook.drawnTotal;
    }

    // ---- sheets

    public int sheet(int s, int form, int n) {
        if (!isBelow(s, SHEETS) || !isBelow(form, FORMS) || n > ITEMS) {
            return BAD;
        }
        if (n < 0) {
            return found(SIZE);
        }
        sheets[s].begin(form, n);
        return n;
    }

    public int lose(int s) {
        if (!isBelow(s, SHEETS)) {
            return BAD;
        }
        Sheet sheet = sheets[s];
        if (sheet.isLost) {
            return found(NULL);
        }
        sheet.isLost = true;
        return sheet.size;
    }

    public int lay(int s, int form, int i, int v) {
        if (!isBelow(s, SHEETS) || !isBelow(form, FORMS)) {
            return BAD;
        }
        int wrong = sheets[s].findingAt(form, i);
        if (wrong != WELL) {
            return found(wrong);
        }
        sheets[s].put(i, v);
        return 1;
    }

    public int get(int s, int form, int i) {
        if (!isBelow(s, SHEETS) || !isBelow(form, FORMS)) {
            return BAD_ITEM;
        }
        int wrong = sheets[s].findingAt(form, i);
        if (wrong != WELL) {
            finding = wrong;
            return BAD_ITEM;
        }
        return sheets[s].items[i];
    }

    public int copy(int s, int i, int t, int j, int n) {
        if (!isBelow(s, SHEETS) || !isBelow(t, SHEETS)) {
            return BAD;
        }
        Sheet from = sheets[s];
        Sheet to = sheets[t];
        if (from.isLost || to.isLost) {
            return found(NULL);
        }
        if (from.form != to.form) {
            return found(STORE);
        }
        if (!from.hasItems(i, n) || !to.hasItems(j, n)) {
            return found(INDEX);
        }
        System.arraycopy(from.items, i, to.items, j, n);
        return 1;
    }

    public int write(int s) {
        if (!isBelow(s, SHEETS)) {
            return BAD;
        }
        Sheet sheet = sheets[s];
        if (sheet.isLost) {
            return found(NULL);
        }
        int undone = undoings.undone(undoings.lawful(NONE));
        int written = Math.min(sheet.size, deeds.total);
        for (int d = 0; d < written; d++) {
            sheet.put(d, deeds.rootOf(d, undone));
        }
        return written;
    }

    public int count(int what) {
        int law = undoings.lawful(NONE);
        switch (what) {
            case 0:
                return deeds.total;
            case 1:
                return deeds.length;
            case 2:
                return undoings.total;
            case 3:
                return undoings.total - Integer.bitCount(law);
            case 4:
                return Integer.bitCount(undoings.holding(law));
            case 5:
                return Integer.bitCount(undoings.standing(law));
            case 6:
                return seenTotal;
            case 7:
                return Integer.bitCount(deeds.own);
            case 8:
                return finding;
            default:
                return BAD;
        }
    }

    public long digest() {
        long h = BEFORE_DIGEST;
        for (int what = 0; what < 8; what++) {
            h = mixed(h, count(what));
        }
        h = mixed(h, fault());
        h = mixed(h, judged());
        h = withDeeds(h);
        h = withUndoings(h);
        h = mixed(h, fewest(1, 2, 2, 0));
        h = mixed(h, fewest(1, 2, 2, 1));
        for (int n = 0; n <= MOST_MORE; n++) {
            h = mixed(h, safe(n));
        }
        for (int what = 0; what < 4; what++) {
            h = mixed(h, last(0, 1, what));
        }
        h = mixed(h, often());
        h = mixed(h, drawn(7, 3, 0));
        return mixed(h, drawn(7, 3, 1));
    }

    private long withDeeds(long digest) {
        long h = digest;
        for (int d = 0; d < deeds.total; d++) {
            for (int what = 0; what < 3; what++) {
                h = mixed(h, deed(d, what));
            }
            h = mixed(h, root(d));
        }
        return h;
    }

    private long withUndoings(long digest) {
        long h = digest;
        for (int u = 0; u < undoings.total; u++) {
            h = mixed(h, holds(u));
            h = mixed(h, by(u));
            h = mixed(h, without(u, 0));
            h = mixed(h, without(u, 1));
        }
        for (int k = 0; k <= undoings.total; k++) {
            h = mixed(h, state(k, 0));
            h = mixed(h, state(k, 1));
        }
        return h;
    }

    private int found(int number) {
        finding = number;
        return -10 - number;
    }

    private static long mixed(long digest, long answer) {
        return 31 * digest + answer;
    }

    private static boolean isBelow(int number, int bound) {
        return number >= 0 && number < bound;
    }

    private static int bitOf(int bits, int place) {
        return (bits >> place) & 1;
    }

    private static int firstBits(int n) {
        return (1 << n) - 1;
    }

    private static int leastOf(int bits) {
        for (int place = 0; place < MOST; place++) {
            if (bitOf(bits, place) == 1) {
                return place;
            }
        }
        return NONE;
    }

    /** The text of what was done, and what falls with what. */
    private static final class Deeds {
        // What may come at a byte: a deed's figure; more of a deed; or, behind a !, only a ;.
        private static final int AT_FIGURE = 0;
        private static final int IN_DEED = 1;
        private static final int AT_END = 2;
        private static final int STUCK = 3;

        private final int[] bytes = new int[BYTES];
        private final int[] doers = new int[MOST];
        private final int[] sources = new int[MOST];
        private int length;
        private int total;
        private int own;
        private int fault = NONE;

        private int append(int b) {
            if (length < BYTES) {
                bytes[length] = b;
                length++;
            }
            parse();
            return length;
        }

        private int clear() {
            int had = length;
            length = 0;
            parse();
            return had;
        }

        private void parse() {
            total = 0;
            own = 0;
            fault = NONE;
            int at = 0;
            int stage = AT_FIGURE;
            while (at < length) {
                stage = stage == AT_FIGURE ? begin(bytes[at]) : goOn(bytes[at], stage);
                if (stage == STUCK) {
                    break;
                }
                at++;
            }
            if (stage == STUCK || (stage == AT_FIGURE && length > 0)) {
                fault = at;
                total = 0;
                own = 0;
            }
        }

        private int begin(int b) {
            int person = b - '0';
            if (total >= MOST || !isBelow(person, PERSONS)) {
                return STUCK;
            }
            doers[total] = person;
            sources[total] = 0;
            total++;
            return IN_DEED;
        }

        private int goOn(int b, int stage) {
            int deed = total - 1;
            if (b == ';') {
                return AT_FIGURE;
            }
            if (stage == AT_END || !isBelow(deed, MOST)) {
                return STUCK;
            }
            if (b == '!') {
                own |= 1 << deed;
                return AT_END;
            }
            int source = b - 'a';
            boolean rises = isBelow(source, deed) && (sources[deed] >> source) == 0;
            if (!rises || Integer.bitCount(sources[deed]) >= MOST_CAME_OF) {
                return STUCK;
            }
            sources[deed] |= 1 << source;
            return IN_DEED;
        }

        private int standing(int undone) {
            return firstBits(total) & ~fallen(undone);
        }

        // One pass is enough: a deed came only of such as are ahead of it.
        private int fallen(int undone) {
            int fell = undone;
            for (int d = 0; d < total; d++) {
                if (((own >> d) & 1) == 0 && (sources[d] & fell) != 0) {
                    fell |= 1 << d;
                }
            }
            return fell;
        }

        private int rootOf(int deed, int undone) {
            for (int d = 0; d <= deed && d < total; d++) {
                if (bitOf(undone, d) == 1 && bitOf(fallen(1 << d), deed) == 1) {
                    return d;
                }
            }
            return NONE;
        }

        private int doneBy(int persons) {
            int done = 0;
            for (int d = 0; d < total; d++) {
                done |= bitOf(persons, doers[d]) << d;
            }
            return done;
        }
    }

    /** Who undid what, and what the law makes of it. */
    private static final class Undoings {
        private final Deeds deeds = new Deeds();
        private final int[] persons = new int[MOST];
        private final int[] things = new int[MOST];
        private int total;

        private boolean tell(int person, int thing) {
            if (total >= MOST) {
                return false;
            }
            persons[total] = person;
            things[total] = thing;
            total++;
            return true;
        }

        private int lawful(int skipped) {
            int law = 0;
            int spent = 0;
            for (int i = 0; i < total; i++) {
                int owner = ownerOf(things[i], law);
                boolean another = owner != NONE && owner != persons[i];
                if (i != skipped && another && bitOf(spent, persons[i]) == 0) {
                    law |= 1 << i;
                    spent |= 1 << persons[i];
                }
            }
            return law;
        }

        // What is lawful hangs on what is ahead alone, so the first k are judged as all are.
        private int lawfulOfFirst(int k) {
            return lawful(NONE) & firstBits(k);
        }

        private int ownerOf(int thing, int law) {
            if (thing < MOST) {
                return thing >= 0 && thing < deeds.total ? deeds.doers[thing] : NONE;
            }
            int undoing = thing - MOST;
            boolean isLawful = undoing < total && ((law >> undoing) & 1) == 1;
            return isLawful ? persons[undoing] : NONE;
        }

        private int unspent(int law) {
            int left = EVERYBODY;
            for (int i = 0; i < total; i++) {
                if (bitOf(law, i) == 1) {
                    left &= ~(1 << persons[i]);
                }
            }
            return left;
        }

        // From the last one back: nothing behind the last can undo it.
        private int holding(int law) {
            int holds = 0;
            int undone = 0;
            for (int i = MOST - 1; i >= 0; i--) {
                if (((law & ~undone) >> i & 1) == 1) {
                    holds |= 1 << i;
                    if (things[i] >= MOST) {
                        undone |= 1 << (things[i] - MOST);
                    }
                }
            }
            return holds;
        }

        private int undone(int law) {
            int holds = holding(law);
            int undone = 0;
            for (int i = 0; i < MOST; i++) {
                if (bitOf(holds, i) == 1 && things[i] < MOST) {
                    undone |= 1 << things[i];
                }
            }
            return undone;
        }

        private int standing(int law) {
            return deeds.standing(undone(law));
        }
    }

    /** What could come behind all undoings; renew() goes ahead of all else. */
    private static final class Outlook {
        private final Undoings undoings = new Undoings();
        private final Deeds deeds = undoings.deeds;
        private final int[][] worths = new int[PERSONS][MOST];
        private int law;
        private int unspent;
        private int drawnDeeds;
        private int drawnTotal;
        private int seed;

        private void renew() {
            law = undoings.lawful(NONE);
            unspent = undoings.unspent(law);
        }

        // Places behind those told are free to try things in: only the law's bits make them count.
        private int standingWith(int first, int second) {
            int tried = law;
            int next = undoings.total;
            if (first != NONE && next < MOST) {
                undoings.things[next] = first;
                tried |= 1 << next;
                next++;
            }
            if (second != NONE && next < MOST) {
                undoings.things[next] = second;
                tried |= 1 << next;
            }
            return deeds.standing(undoings.undone(tried));
        }

        private boolean isAsTold(int standing, int stand, int fell) {
            int needed = stand & firstBits(deeds.total);
            return (standing & needed) == needed && (standing & fell) == 0;
        }

        private int takersOf(int thing) {
            int owner = undoings.ownerOf(thing, law);
            return owner == NONE ? 0 : unspent & ~(1 << owner);
        }

        // What more undoings do does not hang on who does them, only whether they can be; so the
        // least who can do the first, with another left for the second (if there is one), is enough.
        // A second that undoes the first brings back what is now: that needs no look.
        private int leastTaker(int first, int second) {
            int needed = second == NONE ? 1 : 2;
            if (undoings.total + needed > MOST) {
                return NONE;
            }
            int firsts = takersOf(first);
            int seconds = second == NONE ? EVERYBODY : takersOf(second);
            for (int p = 0; p < PERSONS; p++) {
                if (bitOf(firsts, p) == 1 && (seconds & ~(1 << p)) != 0) {
                    return p;
                }
            }
            return NONE;
        }

        private int leastFirst(int stand, int fell, int more) {
            int from = more == 1 ? NONE : 0;
            int to = more == 1 ? 0 : THINGS;
            int least = NONE;
            for (int first = 0; first < THINGS; first++) {
                for (int second = from; second < to; second++) {
                    int person = leastTaker(first, second);
                    if (person == NONE) {
                        continue;
                    }
                    int code = THINGS * person + first;
                    boolean isLess = least == NONE || code < least;
                    if (isLess && isAsTold(standingWith(first, second), stand, fell)) {
                        least = code;
                    }
                }
            }
            return least;
        }

        private int lasting(int more) {
            int firsts = more == 0 ? 0 : THINGS;
            int seconds = more == MOST_MORE ? THINGS : 0;
            int lasting = standingWith(NONE, NONE);
            for (int first = 0; first < firsts; first++) {
                for (int second = NONE; second < seconds; second++) {
                    if (leastTaker(first, second) != NONE) {
                        lasting &= standingWith(first, second);
                    }
                }
            }
            return lasting;
        }

        private int bestMove(int a, int b) {
            int best = NONE;
            int most = worthOf(standingWith(NONE, bestReply(b, NONE)), a);
            for (int thing = 0; thing < THINGS; thing++) {
                if (canTake(a, thing, NONE)) {
                    int worth = worthOf(standingWith(thing, bestReply(b, thing)), a);
                    if (worth > most) {
                        most = worth;
                        best = thing;
                    }
                }
            }
            return best;
        }

        private int bestReply(int b, int move) {
            int best = NONE;
            int most = worthOf(standingWith(move, NONE), b);
            for (int thing = 0; thing < THINGS; thing++) {
                if (canTake(b, thing, move)) {
                    int worth = worthOf(standingWith(move, thing), b);
                    if (worth > most) {
                        most = worth;
                        best = thing;
                    }
                }
            }
            return best;
        }

        // The other's move, if there is one, is the next undoing and may be taken as a thing, too.
        private boolean canTake(int person, int thing, int move) {
            int told = move == NONE ? undoings.total : undoings.total + 1;
            if (told >= MOST) {
                return false;
            }
            boolean isMove = move != NONE && thing == MOST + undoings.total;
            return bitOf(isMove ? unspent : takersOf(thing), person) == 1;
        }

        private int worthOf(int standing, int person) {
            int worth = 0;
            for (int d = 0; d < deeds.total; d++) {
                if (bitOf(standing, d) == 1) {
                    worth += worths[person][d];
                }
            }
            return worth;
        }

        // Only deeds are drawn, so each one drawn holds.
        private void draw(int start, int n) {
            seed = start;
            drawnDeeds = undoings.undone(law);
            drawnTotal = 0;
            int persons = unspent;
            int most = Math.min(n, MOST - undoings.total);
            while (drawnTotal < most && persons != 0) {
                int person = lotOf(persons);
                int others = deeds.standing(drawnDeeds) & ~deeds.doneBy(person);
                if (others == 0) {
                    break;
                }
                drawnDeeds |= lotOf(others);
                persons &= ~person;
                drawnTotal++;
            }
        }

        // One of the bits that are set, by the next lot.
        private int lotOf(int bits) {
            int size = Integer.bitCount(bits);
            if (size == 0) {
                return 0;
            }
            seed = 1103515245 * seed + 12345;
            int place = (seed >>> 16) % size;
            int left = bits;
            for (int i = 0; i < place; i++) {
                left &= left - 1;
            }
            return left & -left;
        }
    }

    /** A row of items of one form, or a lost one. */
    private static final class Sheet {
        private final int[] items = new int[ITEMS];
        private boolean isLost = true;
        private int form;
        private int size;

        private void begin(int newForm, int newSize) {
            isLost = false;
            form = newForm;
            size = newSize;
            for (int i = 0; i < ITEMS; i++) {
                items[i] = 0;
            }
        }

        private int findingAt(int asForm, int i) {
            if (isLost) {
                return NULL;
            }
            if (asForm != form) {
                return CAST;
            }
            return isBelow(i, size) ? WELL : INDEX;
        }

        private boolean hasItems(int from, int n) {
            return from >= 0 && n >= 0 && from <= size && n <= size - from;
        }

        private void put(int i, int v) {
            if (!isBelow(i, size)) {
                return;
            }
            if (form == 0) {
                items[i] = (byte) v;
            } else if (form == 1) {
                items[i] = (short) v;
            } else {
                items[i] = v;
            }
        }
    }
}
