import java.util.Arrays;

/** Letters in rope: a gorge told as a text, and what can be asked of it and done in it. */
public final class KnotRope {
    public static final int NONE = -1;

    private static final int NO_SUCH = -2;
    private static final int BELOW_ZERO = -3;
    private static final int FAULTY = -4;
    private static final int REFUSED = -5;
    private static final int NOTHING = -6;
    private static final int BEYOND = -7;
    private static final int UNLIKE_WIDTHS = -8;
    private static final int NO_SUCH_OF_ROPE = -1000;

    private static final int MOST_BYTES = 1400;
    private static final int FED_BYTES = 20;
    private static final int MOST_KINDS = 6;
    private static final int MOST_WORDS = 10;
    private static final int MOST_ROPES = 6;
    private static final int MOST_PERSONS = 6;
    private static final int MOST_PLACES = 6;
    private static final int MOST_IN_WORD = 4;
    private static final int MOST_TOLD = 12;
    private static final int MOST_TEXT = 24;
    private static final int MOST_LINES = 30;
    private static final int MOST_ACTS = 40;
    private static final int MOST_SUM = 2400;
    private static final int MOST_WRITTEN = 500;
    private static final int MOST_WEAK = 50;
    private static final int MOST_WEIGHT = 999;
    private static final int MOST_SEED = 2000000000;
    private static final int MOST_WINTERS = 20;
    private static final int SETS = 64;

    private static final int SLOTS = 4;
    private static final int WIDTHS = 4;
    private static final int MOST_IN_ROW = 60;
    private static final int IMAGES = 3;

    private static final int CROSSED = 0;
    private static final int TIED = 1;
    private static final int CUT = 2;
    private static final int SPLICED = 3;
    private static final int WETTED = 4;

    private final Tape tape;
    private Gorge now;
    private Gorge spare;
    private final Gorge[] images;
    private final boolean[] kept;
    private final long[] cells;
    private final int[] widths;
    private final int[] sizes;
    private final Text slotText;
    private final Reader reader;
    private final Mender mender;
    private final Writer writer;
    private final Copyist copyist;
    private final Touch touch;
    private final Ways ways;
    private final Ferry boat;

    public KnotRope() {
        tape = new Tape();
        now = new Gorge();
        spare = new Gorge();
        images = new Gorge[IMAGES];
        for (int k = 0; k < IMAGES; k++) {
            images[k] = new Gorge();
        }
        kept = new boolean[IMAGES];
        cells = new long[SLOTS * MOST_IN_ROW];
        widths = new int[SLOTS];
        sizes = new int[SLOTS];
        Arrays.fill(sizes, NONE);
        slotText = new Text(MOST_TEXT);
        reader = new Reader(now);
        mender = new Mender();
        writer = new Writer();
        copyist = new Copyist();
        touch = new Touch();
        ways = new Ways();
        boat = new Ferry();
    }

    // ---- the tape and the gorge

    public int feed(int a, int b, int c, int d, int e) {
        if (tape.size > MOST_BYTES - FED_BYTES) {
            return NONE;
        }
        tape.putFour(a);
        tape.putFour(b);
        tape.putFour(c);
        tape.putFour(d);
        tape.putFour(e);
        return tape.size;
    }

    public int end(int n) {
        if (n < 0 || n > tape.size) {
            return NONE;
        }
        tape.size = n;
        return n;
    }

    public int gorge() {
        tape.parse(spare);
        tape.size = 0;
        if (tape.fault != 0) {
            return FAULTY;
        }
        Gorge told = spare;
        spare = now;
        now = told;
        return now.lines;
    }

    public int fault(int what) {
        if (what == 0) {
            return tape.fault;
        }
        return what == 1 ? tape.place : NONE;
    }

    public int knot(int knot, int what) {
        if (!now.hasKind(knot)) {
            return NO_SUCH;
        }
        switch (what) {
            case 0:
                return now.inches[knot];
            case 1:
                return now.weak[knot];
            default:
                return NO_SUCH;
        }
    }

    public int word(int word, int i) {
        if (!now.hasWord(word)) {
            return NO_SUCH;
        }
        return now.spelled[word].kindAt(i);
    }

    public int means(int word) {
        return now.hasWord(word) ? now.meant[word] : NO_SUCH;
    }

    public int rope(int rope, int what) {
        if (!now.hasRope(rope)) {
            return NO_SUCH_OF_ROPE;
        }
        Rope asked = now.spans[rope];
        switch (what) {
            case 0:
                return asked.first;
            case 1:
                return asked.second;
            case 2:
                return asked.load;
            case 3:
                return asked.knots.size;
            case 4:
                return now.inchesOf(rope);
            case 5:
                return now.strengthOf(rope);
            case 6:
                return asked.crossed;
            default:
                return NO_SUCH_OF_ROPE;
        }
    }

    public int at(int rope, int i) {
        if (!now.hasRope(rope)) {
            return NO_SUCH;
        }
        return now.spans[rope].knots.kindAt(i);
    }

    public int person(int person, int what) {
        if (!now.hasPerson(person)) {
            return NO_SUCH;
        }
        switch (what) {
            case 0:
                return now.weights[person];
            case 1:
                return now.paces[person];
            case 2:
                return now.stands[person];
            default:
                return NO_SUCH;
        }
    }

    // ---- reading

    public int reads(int rope, int back) {
        if (!opens(rope, back)) {
            return NO_SUCH;
        }
        reader.study();
        return reader.readings[0];
    }

    public int says(int rope, int back, int i) {
        if (!opens(rope, back)) {
            return NO_SUCH;
        }
        reader.study();
        return reader.wordOfFirst(i);
    }

    public int sum(int rope, int back, int what) {
        if (what < 0 || what > 1 || !opens(rope, back)) {
            return NO_SUCH;
        }
        reader.study();
        return what == 0 ? reader.least[0] : reader.greatest[0];
    }

    public int has(int rope, int back, int sum) {
        if (!isSum(sum) || !opens(rope, back)) {
            return NO_SUCH;
        }
        return reader.canMean(sum) ? 1 : 0;
    }

    private boolean opens(int rope, int back) {
        if (!now.hasRope(rope) || back < 0 || back > 1) {
            return false;
        }
        reader.open(now, now.spans[rope].knots, back == 1);
        return true;
    }

    private static boolean isSum(int sum) {
        return sum >= 0 && sum <= MOST_SUM;
    }

    public int shortest(int sum, int weak) {
        if (!canAskWriter(sum, weak)) {
            return NO_SUCH;
        }
        writer.study(now, sum, weak);
        return writer.fewestInches(sum);
    }

    public int writes(int sum, int weak, int i) {
        if (!canAskWriter(sum, weak)) {
            return NO_SUCH;
        }
        writer.study(now, sum, weak);
        return writer.wordOfFirst(now, sum, i);
    }

    private boolean canAskWriter(int sum, int weak) {
        return now.isTold() && sum >= 1 && sum <= MOST_WRITTEN && weak >= 0 && weak <= MOST_WEAK;
    }

    // ---- knots that slipped

    public int slips(int rope) {
        if (!opensSlips(rope)) {
            return NO_SUCH;
        }
        return reader.slipsInAll();
    }

    public int spots(int rope) {
        if (!opensSlips(rope)) {
            return NO_SUCH;
        }
        int bits = 0;
        for (int place = 0; place < reader.text.size; place++) {
            if (reader.slipsAt(place) > 0) {
                bits |= 1 << place;
            }
        }
        return bits;
    }

    public int feel(int rope) {
        if (!opensSlips(rope)) {
            return NO_SUCH;
        }
        reader.studyFeel();
        return reader.feltPlace;
    }

    public int leaves(int rope) {
        if (!opensSlips(rope)) {
            return NO_SUCH;
        }
        reader.studyFeel();
        return reader.leftAtWorst;
    }

    public int forged(int rope) {
        if (!opensSlips(rope)) {
            return NO_SUCH;
        }
        reader.studyForgery();
        return reader.forgedBy;
    }

    public int forge(int rope, int what) {
        if (what < 0 || what > 1 || !opensSlips(rope)) {
            return NO_SUCH;
        }
        reader.studyForgery();
        return what == 0 ? reader.forgedPlace : reader.forgedKind;
    }

    private boolean opensSlips(int rope) {
        if (!opens(rope, 0)) {
            return false;
        }
        reader.studySlips();
        return true;
    }

    // ---- copyists

    public int overlap(int rope, int other) {
        if (!hasRopes(rope, other)) {
            return NO_SUCH;
        }
        Text ahead = now.spans[rope].knots;
        int most = rope == other ? ahead.size - 1 : ahead.size;
        return ahead.overlapWith(now.spans[other].knots, most);
    }

    public int all() {
        if (!now.isTold()) {
            return NO_SUCH;
        }
        copyist.lay(now);
        return copyist.shortestLaid(now);
    }

    public int order(int i) {
        if (!now.isTold()) {
            return NO_SUCH;
        }
        copyist.lay(now);
        return copyist.ropeOfFirst(now, i);
    }

    public int part(int rope, int other) {
        if (!hasRopes(rope, other)) {
            return NO_SUCH;
        }
        return now.spans[rope].knots.placeOf(now.spans[other].knots);
    }

    public int errors(int rope, int other) {
        if (!hasRopes(rope, other)) {
            return NO_SUCH;
        }
        return copyist.fewestErrors(now.spans[rope].knots, now.spans[other].knots);
    }

    public int common(int rope, int other) {
        if (!hasRopes(rope, other)) {
            return NO_SUCH;
        }
        return copyist.mostShared(now.spans[rope].knots, now.spans[other].knots);
    }

    private boolean hasRopes(int rope, int other) {
        return now.hasRope(rope) && now.hasRope(other);
    }

    // ---- which rope it is by touch

    public int which(int set) {
        if (!now.hasRopeSet(set)) {
            return NO_SUCH;
        }
        touch.study(now, set);
        return touch.worst[set];
    }

    public int feels(int set) {
        if (!now.hasRopeSet(set)) {
            return NO_SUCH;
        }
        touch.study(now, set);
        return touch.firstFelt[set];
    }

    // ---- ways and ferries

    public int way(int person, int from, int to) {
        if (!opensWays(person, from, to)) {
            return NO_SUCH;
        }
        return ways.timeFrom(from, to);
    }

    public int by(int person, int from, int to, int i) {
        if (!opensWays(person, from, to)) {
            return NO_SUCH;
        }
        return ways.ropeOfFirst(now, from, to, i);
    }

    public int learns(int person, int from, int to, int sum) {
        if (!isSum(sum) || !opensWays(person, from, to)) {
            return NO_SUCH;
        }
        int best = NONE;
        for (int rope = 0; rope < now.ropes; rope++) {
            best = lesser(best, learnsOn(rope, 0, from, to, sum));
            best = lesser(best, learnsOn(rope, 1, from, to, sum));
        }
        return best;
    }

    private int learnsOn(int rope, int back, int from, int to, int sum) {
        int time = ways.timeOver(now, rope, back, from, to);
        if (time == NONE || !opens(rope, back) || !reader.canMean(sum)) {
            return NONE;
        }
        return time;
    }

    public int keys(int person, int from, int to) {
        if (!opensWays(person, from, to)) {
            return NO_SUCH;
        }
        return ways.ropesOnAll(now, person, from, to);
    }

    private boolean opensWays(int person, int from, int to) {
        if (!now.hasPerson(person) || !now.hasPlace(from) || !now.hasPlace(to)) {
            return false;
        }
        ways.study(now, person, NONE);
        return true;
    }

    public int ferry(int rope) {
        if (!opensFerry(rope)) {
            return NO_SUCH;
        }
        int paces = boat.leastPaces();
        return paces == NONE ? NONE : paces * now.inchesOf(rope);
    }

    public int groups(int rope) {
        if (!opensFerry(rope)) {
            return NO_SUCH;
        }
        return boat.fewestGroups();
    }

    public int group(int rope) {
        if (!opensFerry(rope)) {
            return NO_SUCH;
        }
        return boat.groupOfFirst();
    }

    private boolean opensFerry(int rope) {
        if (!now.hasRope(rope)) {
            return false;
        }
        boat.study(now, now.strengthOf(rope));
        return true;
    }

    public int lasts(int rope, int weighs) {
        if (!now.hasRope(rope) || weighs < 1 || weighs > MOST_WEIGHT) {
            return NO_SUCH;
        }
        int over = now.strengthOf(rope) - weighs;
        if (over < 0) {
            return 0;
        }
        return now.wear == 0 ? NONE : over / now.wear + 1;
    }

    public int bears(int rope) {
        if (!opensFerry(rope)) {
            return NO_SUCH;
        }
        return boat.mostAtOnce();
    }

    // ---- acts

    public int cross(int person, int rope) {
        if (!now.hasPerson(person) || !now.hasRope(rope)) {
            return NO_SUCH;
        }
        int end = now.spans[rope].otherEnd(now.stands[person]);
        if (end == NONE || now.weights[person] > now.strengthOf(rope) || now.isTired()) {
            return REFUSED;
        }
        now.act(CROSSED, person, rope, 0);
        return end;
    }

    public int tie(int rope, int i, int kind) {
        if (!now.hasRope(rope) || !now.hasKind(kind)) {
            return NO_SUCH;
        }
        int was = now.spans[rope].knots.kindAt(i);
        if (was == NONE) {
            return NO_SUCH;
        }
        if (now.isTired()) {
            return REFUSED;
        }
        now.act(TIED, rope, i, kind);
        return was;
    }

    public int cut(int rope, int n) {
        if (!now.hasRope(rope) || n < 1 || n >= now.spans[rope].knots.size) {
            return NO_SUCH;
        }
        if (now.isTired()) {
            return REFUSED;
        }
        int gone = now.spans[rope].knots.size - n;
        now.act(CUT, rope, n, 0);
        return gone;
    }

    public int splice(int rope, int other) {
        if (!hasRopes(rope, other)) {
            return NO_SUCH;
        }
        int together = now.spans[rope].knots.size + now.spans[other].knots.size;
        if (together > MOST_TEXT || now.isTired()) {
            return REFUSED;
        }
        now.act(SPLICED, rope, other, 0);
        return together;
    }

    public int wet(int is) {
        if (!now.isTold() || is < 0 || is > 1) {
            return NO_SUCH;
        }
        if (now.isTired()) {
            return REFUSED;
        }
        int was = now.wetness;
        now.act(WETTED, is, 0, 0);
        return was;
    }

    public int undo() {
        if (!now.isTold()) {
            return NO_SUCH;
        }
        if (now.acts == 0) {
            return REFUSED;
        }
        now.takeBackTo(now.acts - 1);
        return now.acts;
    }

    public int anew() {
        if (!now.isTold()) {
            return NO_SUCH;
        }
        int were = now.acts;
        now.takeBackTo(0);
        return were;
    }

    // ---- copies drawn

    public int drawn(int seed, int rope, int what) {
        if (!canDraw(seed, rope)) {
            return NO_SUCH;
        }
        int changed = drawCopy(seed, rope);
        switch (what) {
            case 0:
                return changed;
            case 1:
                return reader.readings[0] > 0 ? 1 : 0;
            case 2:
                return reader.least[0];
            default:
                return NO_SUCH;
        }
    }

    public int winters(int seed, int rope, int n) {
        if (!canDraw(seed, rope) || n < 1 || n > MOST_WINTERS) {
            return NO_SUCH;
        }
        int passed = 0;
        for (int winter = 0; winter < n; winter++) {
            int changed = drawCopy(seed + winter, rope);
            if (changed > 0 && reader.readings[0] > 0) {
                passed++;
            }
        }
        return passed;
    }

    private boolean canDraw(int seed, int rope) {
        return now.hasRope(rope) && seed >= 0 && seed <= MOST_SEED;
    }

    private int drawCopy(int seed, int rope) {
        reader.open(now, now.spans[rope].knots, false);
        int changed = reader.text.slipByDraws(seed, now.odds, now.kinds);
        reader.study();
        return changed;
    }

    // ---- texts of slots

    public int text(int slot) {
        int refused = opensSlot(slot);
        if (refused != 0) {
            return refused;
        }
        reader.open(now, slotText, false);
        reader.study();
        return reader.readings[0];
    }

    public int like(int slot) {
        int refused = opensSlot(slot);
        if (refused != 0) {
            return refused;
        }
        int fewest = NONE;
        int likest = NONE;
        for (int rope = 0; rope < now.ropes; rope++) {
            int wrong = copyist.fewestErrors(slotText, now.spans[rope].knots);
            if (likest == NONE || wrong < fewest) {
                fewest = wrong;
                likest = rope;
            }
        }
        return likest;
    }

    public int found(int slot) {
        int refused = opensSlot(slot);
        if (refused != 0) {
            return refused;
        }
        int bits = 0;
        for (int rope = 0; rope < now.ropes; rope++) {
            if (now.spans[rope].knots.placeOf(slotText) != NONE) {
                bits |= 1 << rope;
            }
        }
        return bits;
    }

    public int mend(int slot) {
        int refused = opensSlot(slot);
        if (refused != 0) {
            return refused;
        }
        mender.study(now, slotText);
        return mender.fewest[0];
    }

    public int mended(int slot, int i) {
        int refused = opensSlot(slot);
        if (refused != 0) {
            return refused;
        }
        mender.study(now, slotText);
        return mender.kindOfFirst(slotText.size, i);
    }

    /** Takes the slot's row over as a text: 0, or why it can't be taken. */
    private int opensSlot(int slot) {
        if (!isSlot(slot) || !now.isTold()) {
            return NO_SUCH;
        }
        int size = sizes[slot];
        if (size < 0) {
            return NOTHING;
        }
        if (size > MOST_TEXT) {
            return NO_SUCH;
        }
        slotText.size = 0;
        for (int i = 0; i < size; i++) {
            long number = cells[slot * MOST_IN_ROW + i];
            if (number < 0 || number >= now.kinds) {
                return NO_SUCH;
            }
            slotText.put((int) number);
        }
        return 0;
    }

    private static boolean isSlot(int slot) {
        return slot >= 0 && slot < SLOTS;
    }

    // ---- counts and images

    public int count(int what) {
        switch (what) {
            case 7:
                return now.wetness;
            case 8:
                return now.acts;
            case 9:
                return now.lines;
            case 10:
                return tape.size;
            case 11:
                return slotsWithRow();
            default:
                return now.countTold(what);
        }
    }

    private int slotsWithRow() {
        int rows = 0;
        for (int slot = 0; slot < SLOTS; slot++) {
            if (sizes[slot] >= 0) {
                rows++;
            }
        }
        return rows;
    }

    public int image(int k) {
        if (k < 0 || k >= IMAGES) {
            return NO_SUCH;
        }
        images[k].take(now);
        kept[k] = true;
        return 0;
    }

    public int back(int k) {
        if (k < 0 || k >= IMAGES) {
            return NO_SUCH;
        }
        if (!kept[k]) {
            return NOTHING;
        }
        now.take(images[k]);
        return 0;
    }

    // ---- slots

    public int row(int slot, int width, int n) {
        if (!isSlot(slot) || width < 0 || width >= WIDTHS || n > MOST_IN_ROW) {
            return NO_SUCH;
        }
        if (n < 0) {
            return BELOW_ZERO;
        }
        widths[slot] = width;
        sizes[slot] = n;
        for (int i = 0; i < n; i++) {
            cells[slot * MOST_IN_ROW + i] = 0;
        }
        return 0;
    }

    public int write(int slot, int i, long v) {
        if (!isSlot(slot)) {
            return NO_SUCH;
        }
        if (sizes[slot] < 0) {
            return NOTHING;
        }
        if (i < 0 || i >= sizes[slot]) {
            return BEYOND;
        }
        cells[slot * MOST_IN_ROW + i] = cutTo(widths[slot], v);
        return 0;
    }

    private static long cutTo(int width, long v) {
        switch (width) {
            case 0:
                return (byte) v;
            case 1:
                return (short) v;
            case 2:
                return (int) v;
            default:
                return v;
        }
    }

    public int paste(int slot, int i, int to, int k, int n) {
        if (!isSlot(slot) || !isSlot(to)) {
            return NO_SUCH;
        }
        if (sizes[slot] < 0 || sizes[to] < 0) {
            return NOTHING;
        }
        if (widths[slot] != widths[to]) {
            return UNLIKE_WIDTHS;
        }
        if (!standsIn(slot, i, n) || !standsIn(to, k, n)) {
            return BEYOND;
        }
        System.arraycopy(cells, slot * MOST_IN_ROW + i, cells, to * MOST_IN_ROW + k, n);
        return 0;
    }

    /** Taken away, not added: a sum of two arguments could wrap around. */
    private boolean standsIn(int slot, int from, int n) {
        return from >= 0 && n >= 0 && from <= sizes[slot] && n <= sizes[slot] - from;
    }

    /** The lesser of two numbers of which each may be NONE. */
    private static int lesser(int a, int b) {
        if (a == NONE) {
            return b;
        }
        return b == NONE ? a : Math.min(a, b);
    }

    /** A row of kinds of knots. */
    private static final class Text {
        final int[] kinds;
        int size;

        Text(int room) {
            kinds = new int[Math.max(room, 0)];
        }

        int kindAt(int i) {
            return i >= 0 && i < size ? kinds[i] : NONE;
        }

        void put(int kind) {
            if (size < kinds.length) {
                kinds[size] = kind;
                size++;
            }
        }

        void take(Text from) {
            size = 0;
            putAll(from);
        }

        void putAll(Text from) {
            // its own text may be put behind itself, so the end is fixed ahead
            int end = from.size;
            for (int i = 0; i < end; i++) {
                put(from.kinds[i]);
            }
        }

        void turn() {
            for (int i = 0, j = size - 1; i < j; i++, j--) {
                int kind = kinds[i];
                kinds[i] = kinds[j];
                kinds[j] = kind;
            }
        }

        boolean holds(Text piece, int from) {
            return holdsBut(piece, from, NONE);
        }

        /** Whether the piece stands here, whatever the knot at the free place is. */
        boolean holdsBut(Text piece, int from, int free) {
            if (from < 0 || from + piece.size > size) {
                return false;
            }
            for (int i = 0; i < piece.size; i++) {
                if (from + i != free && kinds[from + i] != piece.kinds[i]) {
                    return false;
                }
            }
            return true;
        }

        int placeOf(Text piece) {
            for (int from = 0; from + piece.size <= size; from++) {
                if (holds(piece, from)) {
                    return from;
                }
            }
            return NONE;
        }

        boolean isLike(Text other) {
            return size == other.size && holds(other, 0);
        }

        int overlapWith(Text behind, int most) {
            for (int n = Math.min(most, Math.min(size, behind.size)); n > 0; n--) {
                if (endsWithFirst(behind, n)) {
                    return n;
                }
            }
            return 0;
        }

        private boolean endsWithFirst(Text behind, int n) {
            for (int i = 0; i < n; i++) {
                if (kinds[size - n + i] != behind.kinds[i]) {
                    return false;
                }
            }
            return true;
        }

        /** Makes a copyist's copy of this text in its place: how many knots are other ones. */
        int slipByDraws(int seed, int odds, int kindsTold) {
            long x = seed;
            int changed = 0;
            for (int i = 0; i < size; i++) {
                x = (1103515245L * x + 12345L) % 2147483648L;
                if (x / 65536L % 100L < odds) {
                    int next = kinds[i] + 1 < kindsTold ? kinds[i] + 1 : 0;
                    if (next != kinds[i]) {
                        changed++;
                    }
                    kinds[i] = next;
                }
            }
            return changed;
        }
    }

    /** A rope as it was told and as it is now. */
    private static final class Rope {
        int first;
        int second;
        int load;
        int crossed;
        final Text told = new Text(MOST_TOLD);
        final Text knots = new Text(MOST_TEXT);

        void take(Rope from) {
            first = from.first;
            second = from.second;
            load = from.load;
            crossed = from.crossed;
            told.take(from.told);
            knots.take(from.knots);
        }

        void beAsTold() {
            crossed = 0;
            knots.take(told);
        }

        int otherEnd(int place) {
            if (place == first) {
                return second;
            }
            return place == second ? first : NONE;
        }
    }

    /** All that was told, and the acts since; without lines there is no gorge. */
    private static final class Gorge {
        int lines;
        int places;
        int wear;
        int odds;
        int kinds;
        int words;
        int ropes;
        int persons;
        int wetness;
        int acts;
        final int[] inches = new int[MOST_KINDS];
        final int[] weak = new int[MOST_KINDS];
        final Text[] spelled = new Text[MOST_WORDS];
        final int[] meant = new int[MOST_WORDS];
        final Rope[] spans = new Rope[MOST_ROPES];
        final int[] weights = new int[MOST_PERSONS];
        final int[] paces = new int[MOST_PERSONS];
        final int[] homes = new int[MOST_PERSONS];
        final int[] stands = new int[MOST_PERSONS];
        final int[] deeds = new int[4 * MOST_ACTS];

        Gorge() {
            for (int w = 0; w < MOST_WORDS; w++) {
                spelled[w] = new Text(MOST_IN_WORD);
            }
            for (int r = 0; r < MOST_ROPES; r++) {
                spans[r] = new Rope();
            }
        }

        void forget() {
            lines = 0;
            places = 0;
            wear = 0;
            odds = 0;
            kinds = 0;
            words = 0;
            ropes = 0;
            persons = 0;
            wetness = 0;
            acts = 0;
        }

        void take(Gorge from) {
            lines = from.lines;
            places = from.places;
            wear = from.wear;
            odds = from.odds;
            kinds = from.kinds;
            words = from.words;
            ropes = from.ropes;
            persons = from.persons;
            wetness = from.wetness;
            acts = from.acts;
            System.arraycopy(from.inches, 0, inches, 0, MOST_KINDS);
            System.arraycopy(from.weak, 0, weak, 0, MOST_KINDS);
            System.arraycopy(from.meant, 0, meant, 0, MOST_WORDS);
            System.arraycopy(from.weights, 0, weights, 0, MOST_PERSONS);
            System.arraycopy(from.paces, 0, paces, 0, MOST_PERSONS);
            System.arraycopy(from.homes, 0, homes, 0, MOST_PERSONS);
            System.arraycopy(from.stands, 0, stands, 0, MOST_PERSONS);
            System.arraycopy(from.deeds, 0, deeds, 0, 4 * MOST_ACTS);
            for (int w = 0; w < words; w++) {
                spelled[w].take(from.spelled[w]);
            }
            for (int r = 0; r < ropes; r++) {
                spans[r].take(from.spans[r]);
            }
        }

        boolean isTold() {
            return lines > 0;
        }

        boolean isTired() {
            return acts >= MOST_ACTS;
        }

        boolean hasPlace(int place) {
            return place >= 0 && place < places;
        }

        boolean hasKind(int kind) {
            return kind >= 0 && kind < kinds;
        }

        boolean hasWord(int word) {
            return word >= 0 && word < words;
        }

        boolean hasRope(int rope) {
            return rope >= 0 && rope < ropes;
        }

        boolean hasRopeSet(int set) {
            return set >= 1 && set < 1 << ropes;
        }

        boolean hasPerson(int person) {
            return person >= 0 && person < persons;
        }

        int countTold(int what) {
            switch (what) {
                case 0:
                    return places;
                case 1:
                    return wear;
                case 2:
                    return odds;
                case 3:
                    return kinds;
                case 4:
                    return words;
                case 5:
                    return ropes;
                case 6:
                    return persons;
                default:
                    return NONE;
            }
        }

        int inchesOf(int rope) {
            Text knots = spans[rope].knots;
            int dry = Math.max(knots.size - 1, 0);
            for (int i = 0; i < knots.size; i++) {
                dry += inches[knots.kinds[i]];
            }
            return wetness == 1 ? dry - dry / 10 : dry;
        }

        int strengthOf(int rope) {
            Rope asked = spans[rope];
            int weakest = 0;
            for (int i = 0; i < asked.knots.size; i++) {
                weakest = Math.max(weakest, weak[asked.knots.kinds[i]]);
            }
            return asked.load * (100 - weakest) / 100 - wear * asked.crossed;
        }

        boolean isSpelledAhead(Text word) {
            for (int w = 0; w < words; w++) {
                if (spelled[w].isLike(word)) {
                    return true;
                }
            }
            return false;
        }

        void act(int deed, int a, int b, int c) {
            if (isTired()) {
                return;
            }
            int at = 4 * acts;
            deeds[at] = deed;
            deeds[at + 1] = a;
            deeds[at + 2] = b;
            deeds[at + 3] = c;
            acts++;
            carryOut(at);
        }

        private void carryOut(int at) {
            int a = deeds[at + 1];
            int b = deeds[at + 2];
            switch (deeds[at]) {
                case CROSSED:
                    stands[a] = spans[b].otherEnd(stands[a]);
                    spans[b].crossed++;
                    break;
                case TIED:
                    spans[a].knots.kinds[b] = deeds[at + 3];
                    break;
                case CUT:
                    spans[a].knots.size = b;
                    break;
                case SPLICED:
                    spans[a].knots.putAll(spans[b].knots);
                    break;
                default:
                    wetness = a;
                    break;
            }
        }

        /** What a cut or a splice took can't be told from its end, so the acts that stay are done again. */
        void takeBackTo(int stay) {
            beAsTold();
            acts = stay;
            for (int i = 0; i < stay; i++) {
                carryOut(4 * i);
            }
        }

        void beAsTold() {
            acts = 0;
            wetness = 0;
            for (int r = 0; r < ropes; r++) {
                spans[r].beAsTold();
            }
            System.arraycopy(homes, 0, stands, 0, MOST_PERSONS);
        }
    }

    /** The bytes fed, read token by token into a gorge. */
    private static final class Tape {
        private static final int THE_END = 0;
        private static final int A_WORD = 1;
        private static final int A_NUMBER = 2;
        private static final int A_SIGN = 3;
        private static final int NO_TOKEN = 4;

        private static final int MISPLACED = 1;
        private static final int WRONG = 2;
        private static final int TOO_MANY = 3;

        /** Above each bound of a number, and ten times it is still an int. */
        private static final int HUGE = 100000;

        final byte[] bytes = new byte[MOST_BYTES];
        int size;
        int fault;
        int place = NONE;
        private int token;
        private int start;
        private int stop;
        private int value;

        void putFour(int number) {
            for (int shift = 24; shift >= 0 && size < MOST_BYTES; shift -= 8) {
                bytes[size] = (byte) (number >>> shift);
                size++;
            }
        }

        void parse(Gorge into) {
            into.forget();
            fault = 0;
            place = NONE;
            stop = 0;
            next();
            for (int i = 0; i < MOST_LINES && fault == 0 && token != THE_END; i++) {
                line(into);
                sign();
                into.lines++;
            }
            into.beAsTold();
        }

        private void line(Gorge into) {
            if (isWord("gorge") != (into.lines == 0)) {
                blame(MISPLACED);
            } else if (isWord("gorge")) {
                gorgeLine(into);
            } else if (isWord("knot")) {
                knotLine(into);
            } else if (isWord("word")) {
                wordLine(into);
            } else if (isWord("rope")) {
                ropeLine(into);
            } else if (isWord("person")) {
                personLine(into);
            } else {
                blame(MISPLACED);
            }
        }

        private void gorgeLine(Gorge into) {
            next();
            into.places = named("places", 2, MOST_PLACES);
            into.wear = named("wear", 0, 99);
            into.odds = named("odds", 0, 100);
        }

        private void knotLine(Gorge into) {
            if (into.kinds >= MOST_KINDS) {
                blame(TOO_MANY);
                return;
            }
            next();
            into.inches[into.kinds] = named("inches", 1, 9);
            into.weak[into.kinds] = named("weak", 0, MOST_WEAK);
            into.kinds++;
        }

        private void wordLine(Gorge into) {
            if (into.words >= MOST_WORDS) {
                blame(TOO_MANY);
                return;
            }
            next();
            Text word = into.spelled[into.words];
            knots(word, MOST_IN_WORD, into.kinds);
            if (isWord("means") && into.isSpelledAhead(word)) {
                blame(WRONG);
            }
            into.meant[into.words] = named("means", 0, 99);
            into.words++;
        }

        private void ropeLine(Gorge into) {
            if (into.ropes >= MOST_ROPES) {
                blame(TOO_MANY);
                return;
            }
            next();
            Rope rope = into.spans[into.ropes];
            rope.first = number(0, into.places - 1);
            name("to");
            if (token == A_NUMBER && value == rope.first) {
                blame(WRONG);
            }
            rope.second = number(0, into.places - 1);
            rope.load = named("bears", 1, MOST_WEIGHT);
            name("of");
            knots(rope.told, MOST_TOLD, into.kinds);
            into.ropes++;
        }

        private void personLine(Gorge into) {
            if (into.persons >= MOST_PERSONS) {
                blame(TOO_MANY);
                return;
            }
            next();
            into.weights[into.persons] = named("weighs", 1, MOST_WEIGHT);
            into.paces[into.persons] = named("pace", 1, 9);
            into.homes[into.persons] = named("at", 0, into.places - 1);
            into.persons++;
        }

        /** The first knot has to be there; a knot too many that is no kind is blamed for that. */
        private void knots(Text into, int most, int kinds) {
            into.size = 0;
            into.put(number(0, kinds - 1));
            for (int i = 1; i <= most && fault == 0 && token == A_NUMBER; i++) {
                if (i == most && value < kinds) {
                    blame(TOO_MANY);
                }
                into.put(number(0, kinds - 1));
            }
        }

        private int named(String name, int low, int high) {
            name(name);
            return number(low, high);
        }

        private void name(String name) {
            if (isWord(name)) {
                next();
            } else {
                blame(MISPLACED);
            }
        }

        private int number(int low, int high) {
            if (token != A_NUMBER) {
                blame(MISPLACED);
            } else if (value < low || value > high) {
                blame(WRONG);
            }
            int said = value;
            next();
            return said;
        }

        private void sign() {
            if (token != A_SIGN) {
                blame(MISPLACED);
            }
            next();
        }

        private void blame(int what) {
            if (fault == 0) {
                fault = what;
                place = start;
            }
        }

        private boolean isWord(String name) {
            if (token != A_WORD || stop - start != name.length()) {
                return false;
            }
            for (int i = 0; i < name.length(); i++) {
                if (bytes[start + i] != name.charAt(i)) {
                    return false;
                }
            }
            return true;
        }

        /** Behind a fault no token is looked at any more. */
        private void next() {
            if (fault != 0) {
                token = THE_END;
                return;
            }
            start = stop;
            while (start < size && (bytes[start] == 32 || bytes[start] == 10)) {
                start++;
            }
            stop = start;
            value = 0;
            if (start >= size) {
                token = THE_END;
            } else if (isLetter(bytes[start])) {
                token = A_WORD;
                while (stop < size && isLetter(bytes[stop])) {
                    stop++;
                }
            } else if (isDigit(bytes[start])) {
                token = A_NUMBER;
                while (stop < size && isDigit(bytes[stop])) {
                    value = Math.min(10 * value + bytes[stop] - '0', HUGE);
                    stop++;
                }
            } else {
                token = bytes[start] == ';' ? A_SIGN : NO_TOKEN;
                stop++;
            }
        }

        private static boolean isLetter(int sign) {
            return sign >= 'a' && sign <= 'z';
        }

        private static boolean isDigit(int sign) {
            return sign >= '0' && sign <= '9';
        }
    }

    /** Parts one text into words. */
    private static final class Reader {
        /** Longs that have a bit for each sum. */
        private static final int WIDE = MOST_SUM / 64 + 1;

        private Gorge gorge;
        final Text text = new Text(MOST_TEXT);
        /** Of the knots from a place on: how many readings, the least sum, the greatest. */
        final int[] readings = new int[MOST_TEXT + 1];
        final int[] least = new int[MOST_TEXT + 1];
        final int[] greatest = new int[MOST_TEXT + 1];
        /** The least sum of the knots ahead of a place. */
        private final int[] leastAhead = new int[MOST_TEXT + 1];
        /** By place and kind: the least sum of the text with that one knot of that kind. */
        private final int[] leastWith = new int[MOST_TEXT * MOST_KINDS];
        private final long[] sums = new long[(MOST_TEXT + 1) * WIDE];
        int feltPlace;
        int leftAtWorst;
        int forgedBy;
        int forgedPlace;
        int forgedKind;

        Reader(Gorge gorge) {
            this.gorge = gorge;
        }

        void open(Gorge of, Text from, boolean turned) {
            gorge = of;
            text.take(from);
            if (turned) {
                text.turn();
            }
        }

        void study() {
            readings[text.size] = 1;
            least[text.size] = 0;
            greatest[text.size] = 0;
            for (int from = text.size - 1; from >= 0; from--) {
                studyFrom(from);
            }
        }

        private void studyFrom(int from) {
            readings[from] = 0;
            least[from] = NONE;
            greatest[from] = NONE;
            for (int w = 0; w < gorge.words; w++) {
                int rest = from + gorge.spelled[w].size;
                if (leadsOn(w, from)) {
                    readings[from] += readings[rest];
                    least[from] = lesser(least[from], least[rest] + gorge.meant[w]);
                    greatest[from] = Math.max(greatest[from], greatest[rest] + gorge.meant[w]);
                }
            }
        }

        private boolean leadsOn(int w, int from) {
            Text word = gorge.spelled[w];
            return text.holds(word, from) && readings[from + word.size] > 0;
        }

        int wordOfFirst(int i) {
            int from = 0;
            for (int seen = 0; seen < text.size && from < text.size; seen++) {
                int w = firstWordFrom(from);
                if (w == NONE || seen == i) {
                    return w;
                }
                from += gorge.spelled[w].size;
            }
            return NONE;
        }

        private int firstWordFrom(int from) {
            for (int w = 0; w < gorge.words; w++) {
                if (leadsOn(w, from)) {
                    return w;
                }
            }
            return NONE;
        }

        boolean canMean(int sum) {
            int wide = sum / 64 + 1;
            for (int from = 0; from <= text.size; from++) {
                for (int j = 0; j < wide; j++) {
                    sums[from * WIDE + j] = 0;
                }
            }
            sums[0] = 1L;
            for (int from = 0; from < text.size; from++) {
                for (int w = 0; w < gorge.words; w++) {
                    if (text.holds(gorge.spelled[w], from)) {
                        addSums(from, from + gorge.spelled[w].size, gorge.meant[w], wide);
                    }
                }
            }
            return (sums[text.size * WIDE + sum / 64] >>> sum % 64 & 1L) != 0;
        }

        /** Each sum of the first place, and so much more, is one of the second's. */
        private void addSums(int from, int to, int more, int wide) {
            int longs = more / 64;
            int bits = more % 64;
            for (int j = longs; j < wide; j++) {
                int at = from * WIDE + j - longs;
                long moved = sums[at] << bits;
                // a shift by 64 would shift by none
                if (bits > 0 && j > longs) {
                    moved |= sums[at - 1] >>> 64 - bits;
                }
                sums[to * WIDE + j] |= moved;
            }
        }

        void studySlips() {
            study();
            studyAhead();
            Arrays.fill(leastWith, NONE);
            for (int place = 0; place < text.size; place++) {
                for (int w = 0; w < gorge.words; w++) {
                    layOver(place, w);
                }
            }
        }

        private void studyAhead() {
            Arrays.fill(leastAhead, NONE);
            leastAhead[0] = 0;
            for (int from = 0; from < text.size; from++) {
                for (int w = 0; w < gorge.words && leastAhead[from] != NONE; w++) {
                    if (text.holds(gorge.spelled[w], from)) {
                        int rest = from + gorge.spelled[w].size;
                        leastAhead[rest] = lesser(leastAhead[rest], leastAhead[from] + gorge.meant[w]);
                    }
                }
            }
        }

        /** A word that covers the place tells which kind the knot there has to be. */
        private void layOver(int place, int w) {
            Text word = gorge.spelled[w];
            for (int i = 0; i < word.size && i <= place; i++) {
                int from = place - i;
                int rest = from + word.size;
                if (text.holdsBut(word, from, place) && leastAhead[from] != NONE && least[rest] != NONE) {
                    int cell = place * MOST_KINDS + word.kinds[i];
                    leastWith[cell] = lesser(leastWith[cell], leastAhead[from] + gorge.meant[w] + least[rest]);
                }
            }
        }

        private boolean canSlip(int place, int kind) {
            return kind != text.kinds[place] && leastWith[place * MOST_KINDS + kind] != NONE;
        }

        int slipsAt(int place) {
            int count = 0;
            for (int kind = 0; kind < gorge.kinds; kind++) {
                if (canSlip(place, kind)) {
                    count++;
                }
            }
            return count;
        }

        int slipsInAll() {
            int count = 0;
            for (int place = 0; place < text.size; place++) {
                count += slipsAt(place);
            }
            return count;
        }

        void studyFeel() {
            int thought = slipsInAll() + (readings[0] > 0 ? 1 : 0);
            feltPlace = NONE;
            leftAtWorst = thought;
            for (int place = 0; place < text.size; place++) {
                // each other kind is that of one text, the rope's own kind that of all others
                int here = slipsAt(place);
                int worst = Math.max(Math.min(here, 1), thought - here);
                if (worst < leftAtWorst) {
                    leftAtWorst = worst;
                    feltPlace = place;
                }
            }
        }

        void studyForgery() {
            forgedBy = NONE;
            forgedPlace = NONE;
            forgedKind = NONE;
            for (int place = 0; place < text.size && readings[0] > 0; place++) {
                for (int kind = 0; kind < gorge.kinds; kind++) {
                    int by = Math.abs(leastWith[place * MOST_KINDS + kind] - least[0]);
                    if (canSlip(place, kind) && by > forgedBy) {
                        forgedBy = by;
                        forgedPlace = place;
                        forgedKind = kind;
                    }
                }
            }
        }
    }

    /** Changes the fewest knots of a text so that it can be read. */
    private static final class Mender {
        /** Of the knots from a place on: how many are changed, and the least row that they make. */
        final int[] fewest = new int[MOST_TEXT + 1];
        private final int[] rows = new int[(MOST_TEXT + 1) * MOST_TEXT];

        void study(Gorge gorge, Text text) {
            fewest[text.size] = 0;
            for (int from = text.size - 1; from >= 0; from--) {
                fewest[from] = NONE;
                for (int w = 0; w < gorge.words; w++) {
                    consider(text, from, gorge.spelled[w]);
                }
            }
        }

        private void consider(Text text, int from, Text word) {
            int rest = from + word.size;
            if (rest > text.size || fewest[rest] == NONE) {
                return;
            }
            int changed = fewest[rest];
            for (int i = 0; i < word.size; i++) {
                if (text.kinds[from + i] != word.kinds[i]) {
                    changed++;
                }
            }
            boolean fewer = fewest[from] == NONE || changed < fewest[from];
            if (fewer || changed == fewest[from] && isLess(text.size, from, word)) {
                fewest[from] = changed;
                for (int i = 0; i < text.size - from; i++) {
                    rows[from * MOST_TEXT + i] = kindOf(word, rest, i);
                }
            }
        }

        private boolean isLess(int size, int from, Text word) {
            for (int i = 0; i < size - from; i++) {
                int kind = kindOf(word, from + word.size, i);
                int was = rows[from * MOST_TEXT + i];
                if (kind != was) {
                    return kind < was;
                }
            }
            return false;
        }

        /** Knot i of the word and the row that stands behind it. */
        private int kindOf(Text word, int rest, int i) {
            return i < word.size ? word.kinds[i] : rows[rest * MOST_TEXT + i - word.size];
        }

        int kindOfFirst(int size, int i) {
            return i >= 0 && i < size && fewest[0] != NONE ? rows[i] : NONE;
        }
    }

    /** Finds the shortest texts of a meaning. */
    private static final class Writer {
        /** What each word takes, the inch to its neighbour with it; NONE: it may not be used. */
        private final int[] takes = new int[MOST_WORDS];
        private final int[] fewest = new int[MOST_WRITTEN + 1];

        void study(Gorge gorge, int sum, int weak) {
            for (int w = 0; w < gorge.words; w++) {
                takes[w] = inchesTaken(gorge, w, weak);
            }
            fewest[0] = 0;
            for (int s = 1; s <= sum; s++) {
                fewest[s] = NONE;
                for (int w = 0; w < gorge.words; w++) {
                    fewest[s] = lesser(fewest[s], inchesBy(gorge, s, w));
                }
            }
        }

        /** A word that means nothing makes a text longer alone, so none of the shortest has it. */
        private int inchesTaken(Gorge gorge, int w, int weak) {
            Text word = gorge.spelled[w];
            int inches = word.size;
            for (int i = 0; i < word.size; i++) {
                if (gorge.weak[word.kinds[i]] > weak) {
                    return NONE;
                }
                inches += gorge.inches[word.kinds[i]];
            }
            return gorge.meant[w] == 0 ? NONE : inches;
        }

        private int inchesBy(Gorge gorge, int sum, int w) {
            int rest = sum - gorge.meant[w];
            if (takes[w] == NONE || rest < 0 || fewest[rest] == NONE) {
                return NONE;
            }
            return fewest[rest] + takes[w];
        }

        int fewestInches(int sum) {
            return fewest[sum] == NONE ? NONE : fewest[sum] - 1;
        }

        int wordOfFirst(Gorge gorge, int sum, int i) {
            int rest = sum;
            for (int seen = 0; seen < sum && rest > 0; seen++) {
                int w = firstWordOf(gorge, rest);
                if (w == NONE || seen == i) {
                    return w;
                }
                rest -= gorge.meant[w];
            }
            return NONE;
        }

        private int firstWordOf(Gorge gorge, int sum) {
            for (int w = 0; w < gorge.words; w++) {
                int by = inchesBy(gorge, sum, w);
                if (by != NONE && by == fewest[sum]) {
                    return w;
                }
            }
            return NONE;
        }
    }

    /** Lays texts over one another and sets them side by side. */
    private static final class Copyist {
        private int laid;
        private final int[] overlaps = new int[MOST_ROPES * MOST_ROPES];
        /** By the set still to be laid and the rope laid last: the fewest knots that come. */
        private final int[] toCome = new int[SETS * MOST_ROPES];
        private final int[] line = new int[MOST_TEXT + 1];

        void lay(Gorge gorge) {
            laid = 0;
            for (int rope = 0; rope < gorge.ropes; rope++) {
                if (!isInAnother(gorge, rope)) {
                    laid |= 1 << rope;
                }
            }
            for (int rope = 0; rope < gorge.ropes; rope++) {
                for (int other = 0; other < gorge.ropes; other++) {
                    overlaps[rope * MOST_ROPES + other] =
                            gorge.spans[rope].knots.overlapWith(gorge.spans[other].knots, MOST_TEXT);
                }
            }
            for (int set = 0; set <= laid; set++) {
                if ((set & ~laid) == 0) {
                    studySet(gorge, set);
                }
            }
        }

        private boolean isInAnother(Gorge gorge, int rope) {
            Text text = gorge.spans[rope].knots;
            for (int other = 0; other < gorge.ropes; other++) {
                Text around = gorge.spans[other].knots;
                boolean larger = around.size > text.size || other < rope;
                if (other != rope && larger && around.placeOf(text) != NONE) {
                    return true;
                }
            }
            return false;
        }

        private void studySet(Gorge gorge, int set) {
            for (int last = 0; last < gorge.ropes; last++) {
                int fewest = set == 0 ? 0 : NONE;
                for (int next = 0; next < gorge.ropes; next++) {
                    if ((set >> next & 1) != 0) {
                        fewest = lesser(fewest, knotsBy(gorge, set, last, next));
                    }
                }
                toCome[set * MOST_ROPES + last] = fewest;
            }
        }

        private int knotsBy(Gorge gorge, int set, int last, int next) {
            int over = last == NONE ? 0 : overlaps[last * MOST_ROPES + next];
            int rest = set & ~(1 << next);
            return gorge.spans[next].knots.size - over + toCome[rest * MOST_ROPES + next];
        }

        private int fewestToCome(Gorge gorge, int set, int last) {
            int rope = firstNext(gorge, set, last);
            return rope == NONE ? 0 : knotsBy(gorge, set, last, rope);
        }

        private int firstNext(Gorge gorge, int set, int last) {
            int best = NONE;
            for (int next = 0; next < gorge.ropes; next++) {
                if ((set >> next & 1) == 0) {
                    continue;
                }
                if (best == NONE || knotsBy(gorge, set, last, next) < knotsBy(gorge, set, last, best)) {
                    best = next;
                }
            }
            return best;
        }

        int shortestLaid(Gorge gorge) {
            return fewestToCome(gorge, laid, NONE);
        }

        int ropeOfFirst(Gorge gorge, int i) {
            int rest = laid;
            int last = NONE;
            for (int seen = 0; seen < MOST_ROPES && rest != 0; seen++) {
                last = firstNext(gorge, rest, last);
                if (last == NONE || seen == i) {
                    return last;
                }
                rest &= ~(1 << last);
            }
            return NONE;
        }

        int fewestErrors(Text text, Text other) {
            for (int j = 0; j <= other.size; j++) {
                line[j] = j;
            }
            for (int i = 1; i <= text.size; i++) {
                int aslant = line[0];
                line[0] = i;
                for (int j = 1; j <= other.size; j++) {
                    int changed = text.kinds[i - 1] == other.kinds[j - 1] ? aslant : aslant + 1;
                    aslant = line[j];
                    line[j] = Math.min(changed, Math.min(line[j], line[j - 1]) + 1);
                }
            }
            return line[other.size];
        }

        int mostShared(Text text, Text other) {
            Arrays.fill(line, 0);
            for (int i = 1; i <= text.size; i++) {
                int aslant = 0;
                for (int j = 1; j <= other.size; j++) {
                    int above = line[j];
                    boolean alike = text.kinds[i - 1] == other.kinds[j - 1];
                    line[j] = alike ? aslant + 1 : Math.max(above, line[j - 1]);
                    aslant = above;
                }
            }
            return line[other.size];
        }
    }

    /** Tells ropes from one another by feeling one knot behind the other. */
    private static final class Touch {
        /** By the set of ropes it may be: how many are felt at worst, and the place felt first. */
        final int[] worst = new int[SETS];
        final int[] firstFelt = new int[SETS];
        /** The ropes of each kind at a place; the last one: those that end ahead of it. */
        private final int[] alike = new int[MOST_KINDS + 1];

        void study(Gorge gorge, int set) {
            for (int among = 1; among <= set; among++) {
                if ((among & ~set) == 0) {
                    studySet(gorge, among);
                }
            }
        }

        private void studySet(Gorge gorge, int among) {
            firstFelt[among] = NONE;
            worst[among] = Integer.bitCount(among) == 1 ? 0 : NONE;
            for (int place = 0; place < MOST_TEXT && worst[among] != 0; place++) {
                int more = worstBehind(gorge, among, place);
                if (more != NONE && (worst[among] == NONE || more + 1 < worst[among])) {
                    worst[among] = more + 1;
                    firstFelt[among] = place;
                }
            }
        }

        private int worstBehind(Gorge gorge, int among, int place) {
            Arrays.fill(alike, 0);
            for (int rope = 0; rope < gorge.ropes; rope++) {
                if ((among >> rope & 1) != 0) {
                    int kind = gorge.spans[rope].knots.kindAt(place);
                    alike[kind == NONE ? MOST_KINDS : kind] |= 1 << rope;
                }
            }
            int most = 0;
            for (int kind = 0; kind <= MOST_KINDS; kind++) {
                int left = alike[kind];
                if (left == among || left != 0 && worst[left] == NONE) {
                    return NONE;
                }
                most = left == 0 ? most : Math.max(most, worst[left]);
            }
            return most;
        }
    }

    /** Finds the ways of one person over the ropes that bear it. */
    private static final class Ways {
        /** What each rope takes the person; NONE: it is not crossed. */
        private final int[] takes = new int[MOST_ROPES];
        private final int[] times = new int[MOST_PLACES * MOST_PLACES];

        void study(Gorge gorge, int person, int without) {
            Arrays.fill(times, NONE);
            for (int place = 0; place < MOST_PLACES; place++) {
                times[place * MOST_PLACES + place] = 0;
            }
            for (int r = 0; r < gorge.ropes; r++) {
                boolean crossed = r != without && gorge.weights[person] <= gorge.strengthOf(r);
                takes[r] = crossed ? gorge.inchesOf(r) * gorge.paces[person] : NONE;
                if (crossed) {
                    shorten(gorge.spans[r].first, gorge.spans[r].second, takes[r]);
                    shorten(gorge.spans[r].second, gorge.spans[r].first, takes[r]);
                }
            }
            for (int over = 0; over < gorge.places; over++) {
                goOver(gorge.places, over);
            }
        }

        private void goOver(int places, int over) {
            for (int from = 0; from < places; from++) {
                for (int to = 0; to < places; to++) {
                    shorten(from, to, together(timeFrom(from, over), timeFrom(over, to)));
                }
            }
        }

        private void shorten(int from, int to, int time) {
            int at = from * MOST_PLACES + to;
            times[at] = lesser(times[at], time);
        }

        private static int together(int time, int more) {
            return time == NONE || more == NONE ? NONE : time + more;
        }

        int timeFrom(int from, int to) {
            return times[from * MOST_PLACES + to];
        }

        int timeOver(Gorge gorge, int rope, int turned, int from, int to) {
            Rope crossed = gorge.spans[rope];
            int near = turned == 0 ? crossed.first : crossed.second;
            int far = turned == 0 ? crossed.second : crossed.first;
            return together(together(timeFrom(from, near), takes[rope]), timeFrom(far, to));
        }

        int ropeOfFirst(Gorge gorge, int from, int to, int i) {
            int place = from;
            for (int seen = 0; seen < MOST_PLACES && place != to; seen++) {
                int rope = firstRopeFrom(gorge, place, to);
                if (rope == NONE || seen == i) {
                    return rope;
                }
                place = gorge.spans[rope].otherEnd(place);
            }
            return NONE;
        }

        private int firstRopeFrom(Gorge gorge, int place, int to) {
            for (int r = 0; r < gorge.ropes; r++) {
                int far = gorge.spans[r].otherEnd(place);
                if (far != NONE) {
                    int time = together(takes[r], timeFrom(far, to));
                    if (time != NONE && time == timeFrom(place, to)) {
                        return r;
                    }
                }
            }
            return NONE;
        }

        /** A rope is on all ways if there is none without it. */
        int ropesOnAll(Gorge gorge, int person, int from, int to) {
            if (timeFrom(from, to) == NONE) {
                return 0;
            }
            int bits = 0;
            for (int r = 0; r < gorge.ropes; r++) {
                study(gorge, person, r);
                if (timeFrom(from, to) == NONE) {
                    bits |= 1 << r;
                }
            }
            return bits;
        }
    }

    /** Parts all persons into groups that a rope bears. */
    private static final class Ferry {
        private int everyone;
        /** By set of persons: what they weigh, the pace of the slowest. */
        private final int[] weights = new int[SETS];
        private final int[] slowest = new int[SETS];
        /** By set of persons: the least paces of its groups together, and the fewest groups. */
        private final int[] paces = new int[SETS];
        private final int[] parties = new int[SETS];
        private int strength;

        void study(Gorge gorge, int bearable) {
            strength = bearable;
            everyone = (1 << gorge.persons) - 1;
            weights[0] = 0;
            slowest[0] = 0;
            for (int person = 0; person < gorge.persons; person++) {
                int bit = 1 << person;
                for (int set = 0; set < bit; set++) {
                    weights[bit | set] = weights[set] + gorge.weights[person];
                    slowest[bit | set] = Math.max(slowest[set], gorge.paces[person]);
                }
            }
            paces[0] = 0;
            parties[0] = 0;
            for (int set = 1; set <= everyone; set++) {
                studySet(set);
            }
        }

        /** One group has the set's first person, so groups with that one alone are tried. */
        private void studySet(int set) {
            paces[set] = NONE;
            parties[set] = NONE;
            int first = set & -set;
            for (int party = first; party <= set; party++) {
                if (isParty(party, set, first)) {
                    paces[set] = lesser(paces[set], slowest[party] + paces[set & ~party]);
                    parties[set] = lesser(parties[set], 1 + parties[set & ~party]);
                }
            }
        }

        private boolean isParty(int party, int set, int first) {
            return (party & ~set) == 0 && (party & first) != 0 && weights[party] <= strength
                    && paces[set & ~party] != NONE;
        }

        int leastPaces() {
            return paces[everyone];
        }

        int fewestGroups() {
            return parties[everyone];
        }

        int groupOfFirst() {
            for (int party = 1; party <= everyone; party++) {
                if (isParty(party, everyone, 1)
                        && slowest[party] + paces[everyone & ~party] == paces[everyone]) {
                    return party;
                }
            }
            return NONE;
        }

        int mostAtOnce() {
            int most = 0;
            for (int set = 1; set <= everyone; set++) {
                if (weights[set] <= strength) {
                    most = Math.max(most, Integer.bitCount(set));
                }
            }
            return most;
        }
    }
}
