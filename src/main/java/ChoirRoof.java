/**
 * A choir that holds up a vault: singers, stones, settings, and questions about the beats to come.
 *
 * Every question is answered on the scratch choir "then", which is filled from "now" at the start
 * of the call; so no call makes an object, and a question can change nothing.
 */
public final class ChoirRoof {
    public static final int NONE = -1, BAD = -2, STATE = -3, FULL = -4;
    public static final long NO = Long.MIN_VALUE;

    private static final int NOTHING = -5, OTHER_KIND = -6, TOO_MANY = -9, FAULTY = -10;
    private static final int REST = -1, TOP_NOTE = 23, NOTES_ABOVE_LOW = 11, MOST_TIRED = 99;
    private static final int MOST_SINGERS = 6, MOST_STONES = 6, MOST_WEIGHT = 60, MOST_DIGIT = 9;
    private static final int ROW_SIZE = 4, LAST_BEAT = 99999;
    private static final int MOST_SIGNS = 100, MOST_SETTINGS = 5, MOST_CLAUSES = 10, MOST_OPEN = 5;
    private static final int MOST_DUST = 6, MOST_PLAN = 8, MOST_BOOK = 8, MOST_BEARS = 999;
    private static final int MOST_ON = 40, MOST_STEADY = 60, MOST_SHIFT = 8, MOST_CANON = 30;
    private static final int MOST_PROPS = 3, MOST_IN_CHORD = 5, CHORD_STEPS = 5, MOST_KEPT = 20;

    private static final int SINGER = 0, BASS = 1, BOY = 2, STRONG = 3, DEEP = 4, BREAKING = 5;
    private static final int TOLD = 6, KINDS = 7;
    private static final int SINGS = 0, BEARS = 1, TELLS = 2, ACTS = 3;

    /** Bit d is set if notes d apart modulo 12 are in tune: 0, 3, 4, 5, 7, 8, 9. */
    private static final int TUNE_BITS = 0x3B9;
    private static final int[] CHORD_ABOVE = {0, 2, 4, 5, 7};
    private static final int[] KIND_ABOVE = {-1, SINGER, SINGER, SINGER, BASS, BOY, STRONG};
    /** The body of each kind for sings, bears, tells; 0 where the kind has none of its own. */
    private static final int[] BODIES = {
        1, 2, 3,
        11, 0, 0,
        0, 21, 0,
        0, 0, 31,
        0, 0, 41,
        51, 0, 0,
        0, 61, 0
    };

    /** Slot 0 stays without clauses: what holds as long as no setting was read. */
    private final Setting[] settings = new Setting[MOST_SETTINGS + 1];
    private final Reader reader = new Reader();
    private final Acts acts = new Acts();
    private final Choir now;
    private final Choir then;
    private final Choir imageChoir;
    private final Sheets sheets = new Sheets();
    private final Sheets imageSheets = new Sheets();
    private final int[] chordForces = new int[MOST_IN_CHORD * CHORD_STEPS];
    private final int[] sorted = new int[MOST_STONES];
    private boolean imaged;

    public ChoirRoof() {
        for (int i = 0; i < settings.length; i++) {
            settings[i] = new Setting();
        }
        now = new Choir(settings[0]);
        then = new Choir(settings[0]);
        imageChoir = new Choir(settings[0]);
    }

    // ---- settings, singers, stones

    public int feed(int sign) {
        if (sign < 0 || sign > 127) {
            return BAD;
        }
        if (sheets.signs >= MOST_SIGNS) {
            return FULL;
        }
        sheets.tape[sheets.signs] = sign;
        sheets.signs++;
        return sheets.signs;
    }

    public int setting() {
        if (sheets.settings >= MOST_SETTINGS) {
            return FULL;
        }
        // A slot above the count is free: an image never counts more settings than there are now.
        Setting next = settings[sheets.settings + 1];
        int fault = reader.read(sheets.tape, sheets.signs, next);
        sheets.signs = 0;
        if (fault >= 0) {
            return FAULTY - fault;
        }
        now.held = next;
        sheets.settings++;
        return sheets.settings - 1;
    }

    public int singer(int kind, int v, int low) {
        if (kind < 0 || kind >= KINDS) {
            return NONE;
        }
        if (v < 0 || v > MOST_DIGIT || low < 0 || low > TOP_NOTE) {
            return BAD;
        }
        if (now.singers >= MOST_SINGERS) {
            return FULL;
        }
        return now.addSinger(kind, v, low);
    }

    public int of(int singer, int what) {
        if (!isSinger(singer)) {
            return NONE;
        }
        boolean sings = now.note[singer] != REST;
        now.measure();
        switch (what) {
            case 0: return now.kind[singer];
            case 1: return now.v[singer];
            case 2: return now.low[singer];
            case 3: return sings ? now.note[singer] : NOTHING;
            case 4: return now.tired[singer];
            case 5: return now.force[singer];
            case 6: return sings ? now.bearing(singer, now.singing()) : 0;
            case 7: return sings ? now.partners(singer, now.singing()) : 0;
            default: return NONE;
        }
    }

    public int row(int singer, int k, int n) {
        if (!isSinger(singer) || k < 0 || k >= ROW_SIZE) {
            return NONE;
        }
        if (n < 0 || n > MOST_DIGIT) {
            return BAD;
        }
        if (now.kind[singer] != TOLD) {
            return STATE;
        }
        int was = now.rows[singer * ROW_SIZE + k];
        now.rows[singer * ROW_SIZE + k] = n;
        return was;
    }

    public int sing(int singer, int note) {
        if (!isSinger(singer)) {
            return NONE;
        }
        if (note != REST && !now.canSing(singer, note)) {
            return BAD;
        }
        int was = now.note[singer];
        now.note[singer] = note;
        return was == REST ? NOTHING : was;
    }

    public int tire(int singer, int n) {
        if (!isSinger(singer)) {
            return NONE;
        }
        if (n < 0 || n > MOST_TIRED) {
            return BAD;
        }
        int was = now.tired[singer];
        now.tired[singer] = n;
        return was;
    }

    public int stone(int weight) {
        if (weight < 1 || weight > MOST_WEIGHT) {
            return BAD;
        }
        if (now.stones >= MOST_STONES) {
            return FULL;
        }
        return now.addStone(weight);
    }

    public int at(int stone, int what) {
        if (!isStone(stone)) {
            return NONE;
        }
        switch (what) {
            case 0: return now.weight[stone];
            case 1: return now.propped[stone];
            case 2: return now.fallen[stone];
            case 3: return now.looseBits(now.allNow()) >> stone & 1;
            default: return NONE;
        }
    }

    public int prop(int stone, boolean is) {
        if (!isStone(stone)) {
            return NONE;
        }
        if (now.fallen[stone] != 0) {
            return STATE;
        }
        int was = now.propped[stone];
        now.propped[stone] = is ? 1 : 0;
        return was;
    }

    public int told(int what) {
        switch (what) {
            case 0: return now.beat;
            case 1: return now.held.ease;
            case 2: return now.held.weary;
            case 3: return now.allNow();
            case 4: return now.looseBits(now.allNow());
            case 5: return now.countFallen();
            default: return NONE;
        }
    }

    public int beat() {
        if (now.beat >= LAST_BEAT) {
            return STATE;
        }
        return now.goBeat();
    }

    // ---- beats to come

    public int on(int n, int what) {
        boolean isTired = what >= 10 && isSinger(what - 10);
        if (!isTired && (what < 0 || what > 2)) {
            return NONE;
        }
        if (n < 0 || n > MOST_ON) {
            return BAD;
        }
        then.become(now);
        int first = NOTHING;
        for (int b = 1; b <= n; b++) {
            if (then.goBeat() > 0 && first == NOTHING) {
                first = b;
            }
        }
        if (isTired) {
            return then.tired[what - 10];
        }
        if (what == 1) {
            return first;
        }
        return what == 0 ? then.countFallen() : then.allNow();
    }

    public int steady() {
        then.become(now);
        for (int b = 0; b <= MOST_STEADY; b++) {
            if (then.looseBits(then.allNow()) != 0) {
                return b;
            }
            then.goBeat();
        }
        return NOTHING;
    }

    public int best(int singer, int what) {
        if (!isSinger(singer) || what < 0 || what > 1) {
            return NONE;
        }
        then.become(now);
        int note = bestNote(singer);
        if (what == 0) {
            return note;
        }
        then.note[singer] = note;
        return then.allNow();
    }

    public int chord(int k) {
        if (k < -1 || k >= MOST_IN_CHORD) {
            return NONE;
        }
        if (now.singers > MOST_IN_CHORD) {
            return TOO_MANY;
        }
        if (k >= now.singers) {
            return NOTHING;
        }
        measureChords();
        int all = singChord(bestChord());
        return k < 0 ? all : then.note[k];
    }

    public int needed() {
        now.measure();
        int singing = now.singing();
        int who = NOTHING;
        int least = 0;
        for (int i = 0; i < now.singers; i++) {
            if (hasBit(singing, i)) {
                int all = now.allOf(singing & ~(1 << i));
                if (who == NOTHING || all < least) {
                    who = i;
                    least = all;
                }
            }
        }
        return who;
    }

    public int spare() {
        now.measure();
        return spareBits(now.singing());
    }

    public int shift(int n, int what) {
        if (what < 0 || what > 2) {
            return NONE;
        }
        if (n < 1 || n > MOST_SHIFT) {
            return BAD;
        }
        then.become(now);
        int set = 0;
        for (int b = 0; b < n; b++) {
            set = setShift();
            then.goBeat();
        }
        if (what == 0) {
            return then.sumTired();
        }
        return what == 1 ? then.countFallen() : set;
    }

    public int ill(int singer) {
        if (!isSinger(singer)) {
            return NONE;
        }
        if (now.note[singer] == REST) {
            return NOTHING;
        }
        then.become(now);
        then.note[singer] = REST;
        int answer = NOTHING;
        int most = 0;
        for (int i = 0; i < now.singers; i++) {
            if (i != singer && now.note[i] == REST) {
                int note = bestNote(i);
                then.note[i] = note;
                int all = then.allNow();
                then.note[i] = REST;
                if (answer == NOTHING || all > most) {
                    answer = 100 * i + note;
                    most = all;
                }
            }
        }
        return answer;
    }

    public int canon(int n, int what) {
        if (what < 0 || what > 1) {
            return NONE;
        }
        if (n < 1 || n > MOST_CANON) {
            return BAD;
        }
        then.become(now);
        int least = then.allNow();
        for (int b = 0; b < n; b++) {
            least = Math.min(least, then.allNow());
            then.goBeat();
            then.goRound();
        }
        return what == 0 ? then.countFallen() : least;
    }

    // ---- stones

    public int props(int n) {
        if (n < 0 || n > MOST_PROPS) {
            return BAD;
        }
        int all = now.allNow();
        int hang = sortHanging();
        int weights = now.sumHanging();
        int count = 0;
        // The heaviest first relieve the most, so no other choice takes fewer.
        while (weights > all && count < hang) {
            weights -= now.weight[sorted[hang - 1 - count]];
            count++;
        }
        return count > n ? NOTHING : count;
    }

    public int critical(int what) {
        if (what < 0 || what > 1) {
            return NONE;
        }
        now.measure();
        int singing = now.singing();
        int spare = spareBits(singing);
        int loose = looseOf(singing);
        int count = 0;
        int first = NOTHING;
        for (int i = 0; i < now.singers; i++) {
            for (int j = i + 1; j < now.singers; j++) {
                if (hasBit(spare, i) && hasBit(spare, j)
                        && looseOf(singing & ~(1 << i) & ~(1 << j)) > loose) {
                    first = count == 0 ? 10 * i + j : first;
                    count++;
                }
            }
        }
        return what == 0 ? count : first;
    }

    public int load() {
        return now.sumHanging() - now.allNow();
    }

    public int dust(int beats, int fallen) {
        if (beats == -1) {
            sheets.dusts = 0;
            return 0;
        }
        if (beats < 0 || beats > MOST_ON || fallen < 0 || fallen > MOST_STONES) {
            return BAD;
        }
        if (sheets.dusts >= MOST_DUST) {
            return FULL;
        }
        sheets.dustBeats[sheets.dusts] = beats;
        sheets.dustFallen[sheets.dusts] = fallen;
        sheets.dusts++;
        return sheets.dusts;
    }

    public int flat() {
        int bits = 0;
        for (int i = 0; i < now.singers; i++) {
            if (now.note[i] != REST && isDustBy(i)) {
                bits |= 1 << i;
            }
        }
        return bits;
    }

    public int order(int k) {
        if (k < -1 || k >= MOST_STONES) {
            return NONE;
        }
        int hang = sortHanging();
        if (k >= 0) {
            return k < hang ? sorted[k] : NOTHING;
        }
        int all = now.allNow();
        int weights = 0;
        int borne = 0;
        for (int p = 0; p < hang; p++) {
            weights += now.weight[sorted[p]];
            borne += weights <= all ? 1 : 0;
        }
        return hang - borne;
    }

    // ---- odds, wages, plans, books; part 0 above, 1 below the line

    public long odds(int part) {
        if (now.singers == 0) {
            return NO;
        }
        now.measure();
        int singing = now.singing();
        int good = 0;
        for (int i = 0; i < now.singers; i++) {
            if (looseOf(singing & ~(1 << i)) == 0) {
                good++;
            }
        }
        return inLowestTerms(good, now.singers, part);
    }

    public long mean(int n, int part) {
        if (n < 1 || n > MOST_ON) {
            return NO;
        }
        then.become(now);
        int sum = 0;
        for (int b = 0; b < n; b++) {
            sum += then.allNow();
            then.goBeat();
        }
        return inLowestTerms(sum, n, part);
    }

    public long wage(int singer, int part) {
        if (!isSinger(singer)) {
            return NO;
        }
        if (now.note[singer] == REST) {
            return inLowestTerms(0, 1, part);
        }
        now.measure();
        int one = 1 << singer;
        int others = now.singing() & ~one;
        int sum = 0;
        int sets = 0;
        for (int set = 0; set <= others; set++) {
            if ((set & ~others) == 0) {
                sum += now.allOf(set | one) - now.allOf(set);
                sets++;
            }
        }
        return inLowestTerms(sum, sets, part);
    }

    public int plan(int singer, int note) {
        if (singer == -1) {
            sheets.plans = 0;
            return 0;
        }
        if (!isSinger(singer)) {
            return NONE;
        }
        if (note < REST || note > TOP_NOTE) {
            return BAD;
        }
        if (sheets.plans >= MOST_PLAN) {
            return FULL;
        }
        sheets.planSingers[sheets.plans] = singer;
        sheets.planNotes[sheets.plans] = note;
        sheets.plans++;
        return sheets.plans;
    }

    public int planned(int what) {
        if (what < 0 || what > 1) {
            return NONE;
        }
        then.become(now);
        for (int p = 0; p < sheets.plans; p++) {
            int singer = sheets.planSingers[p];
            int note = sheets.planNotes[p];
            if (isSinger(singer)) {
                then.note[singer] = then.canSing(singer, note) ? note : REST;
            }
            then.goBeat();
        }
        return what == 0 ? then.countFallen() : then.allNow();
    }

    public int book(int singer, int bears) {
        if (singer == -1) {
            sheets.books = 0;
            return 0;
        }
        if (!isSinger(singer)) {
            return NONE;
        }
        if (bears < 0 || bears > MOST_BEARS) {
            return BAD;
        }
        if (sheets.books >= MOST_BOOK) {
            return FULL;
        }
        sheets.bookSingers[sheets.books] = singer;
        sheets.bookBears[sheets.books] = bears;
        sheets.books++;
        return sheets.books;
    }

    public int looked() {
        now.measure();
        int singing = now.singing();
        for (int r = 0; r < sheets.books; r++) {
            int singer = sheets.bookSingers[r];
            int bears = hasBit(singing, singer) ? now.bearing(singer, singing) : 0;
            if (bears != sheets.bookBears[r]) {
                return r;
            }
        }
        return NOTHING;
    }

    // ---- acts, the image

    public int act(int singer, int act, int x) {
        acts.ran = 0;
        if (!isSinger(singer) || act < 0 || act >= ACTS) {
            return 0;
        }
        acts.number = singer;
        acts.kind = now.kind[singer];
        acts.v = now.v[singer];
        return acts.perform(act, x);
    }

    public int trace(int i) {
        if (i < 0 || i >= acts.ran || i >= MOST_KEPT) {
            return NONE;
        }
        return acts.kept[i];
    }

    public int as(int singer, int k) {
        if (!isSinger(singer) || k < 0 || k >= KINDS) {
            return NONE;
        }
        int kind = now.kind[singer];
        for (int step = 0; step < KINDS && kind >= 0 && kind < KINDS; step++) {
            if (kind == k) {
                return now.v[singer];
            }
            kind = KIND_ABOVE[kind];
        }
        return OTHER_KIND;
    }

    public int image() {
        imageChoir.become(now);
        imageSheets.become(sheets);
        imaged = true;
        return now.singers;
    }

    public int undo() {
        if (!imaged) {
            return STATE;
        }
        now.become(imageChoir);
        sheets.become(imageSheets);
        return now.singers;
    }

    public int count(int what) {
        switch (what) {
            case 0: return now.singers;
            case 1: return now.stones;
            case 2: return sheets.settings;
            case 3: return sheets.dusts;
            case 4: return sheets.plans;
            case 5: return sheets.books;
            case 6: return sheets.signs;
            case 7: return acts.ran;
            default: return NONE;
        }
    }

    // ---- what the questions share

    private boolean isSinger(int singer) {
        return singer >= 0 && singer < now.singers;
    }

    private boolean isStone(int stone) {
        return stone >= 0 && stone < now.stones;
    }

    private static boolean hasBit(int bits, int i) {
        return (bits >> i & 1) != 0;
    }

    /** The note by which all bear most if the singer sings it among those of the scratch choir. */
    private int bestNote(int singer) {
        int was = then.note[singer];
        int found = REST;
        int most = 0;
        for (int note = now.low[singer]; note <= now.highOf(singer); note++) {
            then.note[singer] = note;
            int all = then.allNow();
            if (found == REST || all > most) {
                found = note;
                most = all;
            }
        }
        then.note[singer] = was;
        return found;
    }

    /** A force hangs on the singer's own note alone: measured once, not once for each chord. */
    private void measureChords() {
        then.become(now);
        for (int i = 0; i < now.singers; i++) {
            for (int step = 0; step < CHORD_STEPS; step++) {
                then.note[i] = chordNote(i, step);
                chordForces[i * CHORD_STEPS + step] = then.forceOf(i);
            }
        }
    }

    private int chordNote(int singer, int step) {
        return Math.min(TOP_NOTE, now.low[singer] + CHORD_ABOVE[step]);
    }

    /** Chords are numbers to the base 5, the first singer's step the leading digit. */
    private int bestChord() {
        int chords = 1;
        for (int i = 0; i < now.singers; i++) {
            chords *= CHORD_STEPS;
        }
        int found = 0;
        int most = -1;
        for (int chord = 0; chord < chords; chord++) {
            int all = singChord(chord);
            if (all > most) {
                found = chord;
                most = all;
            }
        }
        return found;
    }

    /** What all bear by a chord, once its forces are measured. */
    private int singChord(int chord) {
        int rest = chord;
        for (int i = now.singers - 1; i >= 0; i--) {
            int step = rest % CHORD_STEPS;
            rest /= CHORD_STEPS;
            then.note[i] = chordNote(i, step);
            then.force[i] = chordForces[i * CHORD_STEPS + step];
        }
        return then.allOf((1 << now.singers) - 1);
    }

    /** How many stones are loose if just this set of the measured singers sings. */
    private int looseOf(int set) {
        return Integer.bitCount(now.looseBits(now.allOf(set)));
    }

    /** Loose stones are always the last that hang, so a count tells whether there are more. */
    private int spareBits(int singing) {
        int loose = looseOf(singing);
        int bits = 0;
        for (int i = 0; i < now.singers; i++) {
            if (hasBit(singing, i) && looseOf(singing & ~(1 << i)) <= loose) {
                bits |= 1 << i;
            }
        }
        return bits;
    }

    /** Lets the smallest set that holds all stones sing in the scratch choir: its bits. */
    private int setShift() {
        int singing = now.singing();
        then.keepNotes(now, singing);
        then.measure();
        int found = singing;
        int fewest = MOST_SINGERS + 1;
        for (int set = 0; set <= singing; set++) {
            if ((set & ~singing) == 0 && Integer.bitCount(set) < fewest
                    && then.looseBits(then.allOf(set)) == 0) {
                found = set;
                fewest = Integer.bitCount(set);
            }
        }
        then.keepNotes(now, found);
        return found;
    }

    /** Whether all of the dust is so if this one sings a note lower. */
    private boolean isDustBy(int singer) {
        then.become(now);
        then.note[singer] = Math.max(0, now.note[singer] - 1);
        for (int b = 0; b <= MOST_ON; b++) {
            int fallen = then.countFallen();
            for (int d = 0; d < sheets.dusts; d++) {
                if (sheets.dustBeats[d] == b && sheets.dustFallen[d] != fallen) {
                    return false;
                }
            }
            then.goBeat();
        }
        return true;
    }

    /** Fills "sorted" with those that hang, the lightest first: how many. */
    private int sortHanging() {
        int hang = 0;
        for (int i = 0; i < now.stones; i++) {
            if (now.hangs(i)) {
                int place = hang;
                while (place > 0 && now.weight[sorted[place - 1]] > now.weight[i]) {
                    sorted[place] = sorted[place - 1];
                    place--;
                }
                sorted[place] = i;
                hang++;
            }
        }
        return hang;
    }

    private static long inLowestTerms(int above, int below, int part) {
        if (part < 0 || part > 1) {
            return NO;
        }
        int divisor = Math.max(1, commonDivisor(Math.abs(above), below));
        return (part == 0 ? above : below) / divisor;
    }

    private static int commonDivisor(int a, int b) {
        int x = a;
        int y = b;
        // y shrinks by each step, and never takes more than some forty of them.
        for (int step = 0; step < 64 && y > 0; step++) {
            int rest = x % y;
            x = y;
            y = rest;
        }
        return x;
    }

    /** The clauses of a setting; the tests of a clause stand in "code" as a postfix row. */
    private static final class Setting {
        static final int EASE = 0, WEARY = 1, LOUD = 2, DRAUGHT = 3;
        static final int NOT = -1, AND = -2, OR = -3;
        /** A test is one token: its letter, its sign (0 <, 1 =, 2 >) and its number, packed. */
        static final int TEST_SIZE = 300, SIGN_SIZE = 100;

        int clauses;
        int used;
        int ease;
        int weary;
        final int[] word = new int[MOST_CLAUSES];
        final int[] number = new int[MOST_CLAUSES];
        final int[] from = new int[MOST_CLAUSES];
        final int[] to = new int[MOST_CLAUSES];
        final int[] code = new int[MOST_SIGNS];

        Setting() {
            clear();
        }

        private void clear() {
            clauses = 0;
            used = 0;
            ease = 3;
            weary = 1;
        }

        /** A token takes at least one sign of the tape, so the code has room for all. */
        void addToken(int token) {
            if (used < code.length) {
                code[used] = token;
                used++;
            }
        }

        void addClause(int what, int n, int codeFrom) {
            if (clauses >= MOST_CLAUSES) {
                return;
            }
            word[clauses] = what;
            number[clauses] = n;
            from[clauses] = codeFrom;
            to[clauses] = used;
            clauses++;
            if (what == EASE) {
                ease = n;
            } else if (what == WEARY) {
                weary = n;
            }
        }

        /** What loud and draught together add to the force of one about whom the six numbers tell. */
        int gainOf(int[] about) {
            int sum = 0;
            for (int c = 0; c < clauses; c++) {
                if (word[c] == LOUD && holds(c, about)) {
                    sum += number[c];
                } else if (word[c] == DRAUGHT && holds(c, about)) {
                    sum -= number[c];
                }
            }
            return sum;
        }

        /** The bits of an int are stack enough: five open brackets never leave more than 13 values. */
        private boolean holds(int clause, int[] about) {
            int stack = 0;
            for (int p = from[clause]; p < to[clause]; p++) {
                int token = code[p];
                int top = stack & 1;
                if (token >= 0) {
                    int what = Math.min(token / TEST_SIZE, about.length - 1);
                    int sign = Integer.compare(about[what], token % SIGN_SIZE);
                    stack = stack << 1 | (sign == token % TEST_SIZE / SIGN_SIZE - 1 ? 1 : 0);
                } else if (token == NOT) {
                    stack ^= 1;
                } else {
                    stack >>>= 1;
                    stack = token == AND ? stack & (top | ~1) : stack | top;
                }
            }
            return (stack & 1) != 0;
        }
    }

    /** Reads a setting from the tape; it stops at the first sign with which none can go on. */
    private static final class Reader {
        private int[] tape = new int[0];
        private int size;
        private int place;
        private Setting into;

        /** The place of the fault, or -1 if there is none. */
        int read(int[] signs, int count, Setting setting) {
            tape = signs;
            size = Math.min(count, signs.length);
            place = 0;
            into = setting;
            into.clear();
            for (int c = 0; c < MOST_CLAUSES; c++) {
                if (!readClause()) {
                    return place;
                }
                if (place >= size) {
                    return -1;
                }
                if (c == MOST_CLAUSES - 1 || !take(';')) {
                    return place;
                }
            }
            return place;
        }

        private int peek() {
            return place < size ? tape[place] : -1;
        }

        private boolean take(char sign) {
            if (peek() != sign) {
                return false;
            }
            place++;
            return true;
        }

        private boolean readClause() {
            switch (peek()) {
                case 'e': return readWord("ease ") && readRest(Setting.EASE);
                case 'w': return readWord("weary ") && readRest(Setting.WEARY);
                case 'l': return readWord("loud ") && readRest(Setting.LOUD);
                case 'd': return readWord("draught ") && readRest(Setting.DRAUGHT);
                default: return false;
            }
        }

        private boolean readWord(String word) {
            for (int i = 0; i < word.length(); i++) {
                if (!take(word.charAt(i))) {
                    return false;
                }
            }
            return true;
        }

        private boolean readRest(int what) {
            int n = readNumber();
            if (n < 0) {
                return false;
            }
            int codeFrom = into.used;
            boolean isTested = what == Setting.LOUD || what == Setting.DRAUGHT;
            if (isTested && !(take(' ') && readEither(0))) {
                return false;
            }
            into.addClause(what, n, codeFrom);
            return true;
        }

        /** One or two digits, or -1; behind a leading 0 another digit is left as the fault. */
        private int readNumber() {
            int first = peek() - '0';
            if (first < 0 || first > 9) {
                return -1;
            }
            place++;
            int second = peek() - '0';
            if (first == 0 || second < 0 || second > 9) {
                return first;
            }
            place++;
            return 10 * first + second;
        }

        private boolean readEither(int open) {
            if (!readBoth(open)) {
                return false;
            }
            for (int more = 0; more < MOST_SIGNS && take('|'); more++) {
                if (!readBoth(open)) {
                    return false;
                }
                into.addToken(Setting.OR);
            }
            return true;
        }

        private boolean readBoth(int open) {
            if (!readFactor(open)) {
                return false;
            }
            for (int more = 0; more < MOST_SIGNS && take('&'); more++) {
                if (!readFactor(open)) {
                    return false;
                }
                into.addToken(Setting.AND);
            }
            return true;
        }

        private boolean readFactor(int open) {
            int sign = peek();
            if (sign != '!' && sign != '(') {
                return readTest();
            }
            if (open >= MOST_OPEN) {
                return false;
            }
            place++;
            if (sign == '(') {
                return readEither(open + 1) && take(')');
            }
            if (!readFactor(open + 1)) {
                return false;
            }
            into.addToken(Setting.NOT);
            return true;
        }

        private boolean readTest() {
            int what = indexOfNext("skvntb");
            if (what < 0) {
                return false;
            }
            int sign = indexOfNext("<=>");
            if (sign < 0) {
                return false;
            }
            int n = readNumber();
            if (n < 0) {
                return false;
            }
            into.addToken(what * Setting.TEST_SIZE + sign * Setting.SIGN_SIZE + n);
            return true;
        }

        /** Takes the next sign if it is one of these: which. */
        private int indexOfNext(String signs) {
            int sign = peek();
            int index = sign < 0 ? -1 : signs.indexOf((char) sign);
            if (index >= 0) {
                place++;
            }
            return index;
        }
    }

    /** Singers, stones and the beat: all that a beat reads or changes. */
    private static final class Choir {
        int singers;
        int stones;
        int beat;
        Setting held;
        final int[] kind = new int[MOST_SINGERS];
        final int[] v = new int[MOST_SINGERS];
        final int[] low = new int[MOST_SINGERS];
        final int[] note = new int[MOST_SINGERS];
        final int[] tired = new int[MOST_SINGERS];
        final int[] rows = new int[MOST_SINGERS * ROW_SIZE];
        final int[] weight = new int[MOST_STONES];
        final int[] propped = new int[MOST_STONES];
        final int[] fallen = new int[MOST_STONES];
        /** As measured last; 0 of one who rested then. */
        final int[] force = new int[MOST_SINGERS];
        /** What the tests of a clause ask about one singer: s, k, v, n, t, b. */
        private final int[] about = new int[6];

        Choir(Setting none) {
            held = none;
        }

        void become(Choir other) {
            singers = other.singers;
            stones = other.stones;
            beat = other.beat;
            held = other.held;
            System.arraycopy(other.kind, 0, kind, 0, MOST_SINGERS);
            System.arraycopy(other.v, 0, v, 0, MOST_SINGERS);
            System.arraycopy(other.low, 0, low, 0, MOST_SINGERS);
            System.arraycopy(other.note, 0, note, 0, MOST_SINGERS);
            System.arraycopy(other.tired, 0, tired, 0, MOST_SINGERS);
            System.arraycopy(other.rows, 0, rows, 0, MOST_SINGERS * ROW_SIZE);
            System.arraycopy(other.weight, 0, weight, 0, MOST_STONES);
            System.arraycopy(other.propped, 0, propped, 0, MOST_STONES);
            System.arraycopy(other.fallen, 0, fallen, 0, MOST_STONES);
        }

        int addSinger(int itsKind, int itsV, int itsLow) {
            int i = singers;
            if (i >= MOST_SINGERS) {
                return FULL;
            }
            kind[i] = itsKind;
            v[i] = itsV;
            low[i] = itsLow;
            // All else of a free slot is 0: nobody wrote there, and an undo brings an image's free slots.
            note[i] = REST;
            singers++;
            return i;
        }

        int addStone(int itsWeight) {
            int i = stones;
            if (i >= MOST_STONES) {
                return FULL;
            }
            weight[i] = itsWeight;
            stones++;
            return i;
        }

        int highOf(int i) {
            return Math.min(TOP_NOTE, low[i] + NOTES_ABOVE_LOW);
        }

        boolean canSing(int i, int itsNote) {
            return itsNote >= low[i] && itsNote <= highOf(i);
        }

        int singing() {
            int bits = 0;
            for (int i = 0; i < singers; i++) {
                if (note[i] != REST) {
                    bits |= 1 << i;
                }
            }
            return bits;
        }

        void measure() {
            for (int i = 0; i < singers; i++) {
                force[i] = note[i] == REST ? 0 : forceOf(i);
            }
        }

        int forceOf(int i) {
            int weariness = tired[i] / 10;
            about[0] = i;
            about[1] = kind[i];
            about[2] = v[i];
            about[3] = note[i];
            about[4] = weariness;
            about[5] = beat % 10;
            return Math.max(0, strengthOf(i) + held.gainOf(about) - weariness);
        }

        private int strengthOf(int i) {
            int asBass = note[i] <= 11 ? 12 : 8;
            int asBoy = 8 + note[i] / 2;
            int asStrong = 10 + v[i];
            int breaks = v[i] + 2;
            switch (kind[i]) {
                case BASS: return asBass;
                case BOY: return asBoy;
                case STRONG: return asStrong;
                case DEEP: return asBass + (TOP_NOTE - note[i]) / 4;
                case BREAKING: return breaks > 0 && (beat + i) % breaks == 0 ? 0 : asBoy;
                case TOLD: return asStrong + rows[i * ROW_SIZE + beat % ROW_SIZE];
                default: return 10;
            }
        }

        /** With how many others of the set one is in tune. */
        int partners(int i, int set) {
            int count = 0;
            for (int j = 0; j < singers; j++) {
                int apart = Math.abs(note[i] - note[j]) % 12;
                if (j != i && hasBit(set, j) && hasBit(TUNE_BITS, apart)) {
                    count++;
                }
            }
            return count;
        }

        /** What one bears by its measured force if just the set sings. */
        int bearing(int i, int set) {
            int count = partners(i, set);
            return count == 0 ? force[i] / 2 : force[i] * count;
        }

        /** What all of the set bear by their measured forces if no other sings. */
        int allOf(int set) {
            int sum = 0;
            for (int i = 0; i < singers; i++) {
                if (hasBit(set, i)) {
                    sum += bearing(i, set);
                }
            }
            return sum;
        }

        int allNow() {
            measure();
            return allOf(singing());
        }

        boolean hangs(int stone) {
            return propped[stone] == 0 && fallen[stone] == 0;
        }

        int sumHanging() {
            int sum = 0;
            for (int i = 0; i < stones; i++) {
                sum += hangs(i) ? weight[i] : 0;
            }
            return sum;
        }

        int looseBits(int all) {
            int bits = 0;
            int sum = 0;
            for (int i = 0; i < stones; i++) {
                if (hangs(i)) {
                    sum += weight[i];
                    bits |= sum > all ? 1 << i : 0;
                }
            }
            return bits;
        }

        int countFallen() {
            int count = 0;
            for (int i = 0; i < stones; i++) {
                count += fallen[i];
            }
            return count;
        }

        int sumTired() {
            int sum = 0;
            for (int i = 0; i < singers; i++) {
                sum += tired[i];
            }
            return sum;
        }

        /** A beat goes: how many stones fall. */
        int goBeat() {
            measure();
            int loose = looseBits(allOf(singing()));
            for (int i = 0; i < stones; i++) {
                if (hasBit(loose, i)) {
                    fallen[i] = 1;
                }
            }
            for (int i = 0; i < singers; i++) {
                tired[i] = note[i] == REST
                        ? Math.max(0, tired[i] - held.ease)
                        : Math.min(MOST_TIRED, tired[i] + held.weary);
            }
            beat++;
            return Integer.bitCount(loose);
        }

        /** Each takes over the note of the one ahead of it, the first that of the last. */
        void goRound() {
            if (singers == 0) {
                return;
            }
            int last = note[singers - 1];
            for (int i = singers - 1; i >= 0; i--) {
                int next = i == 0 ? last : note[i - 1];
                note[i] = canSing(i, next) ? next : REST;
            }
        }

        /** The set sings the other choir's notes, all others rest. */
        void keepNotes(Choir other, int set) {
            for (int i = 0; i < singers; i++) {
                note[i] = hasBit(set, i) ? other.note[i] : REST;
            }
        }
    }

    /** The tape, how many settings were read, and all that is told by hand. */
    private static final class Sheets {
        int signs;
        int settings;
        int dusts;
        int plans;
        int books;
        final int[] tape = new int[MOST_SIGNS];
        final int[] dustBeats = new int[MOST_DUST];
        final int[] dustFallen = new int[MOST_DUST];
        final int[] planSingers = new int[MOST_PLAN];
        final int[] planNotes = new int[MOST_PLAN];
        final int[] bookSingers = new int[MOST_BOOK];
        final int[] bookBears = new int[MOST_BOOK];

        void become(Sheets other) {
            signs = other.signs;
            settings = other.settings;
            dusts = other.dusts;
            plans = other.plans;
            books = other.books;
            System.arraycopy(other.tape, 0, tape, 0, MOST_SIGNS);
            System.arraycopy(other.dustBeats, 0, dustBeats, 0, MOST_DUST);
            System.arraycopy(other.dustFallen, 0, dustFallen, 0, MOST_DUST);
            System.arraycopy(other.planSingers, 0, planSingers, 0, MOST_PLAN);
            System.arraycopy(other.planNotes, 0, planNotes, 0, MOST_PLAN);
            System.arraycopy(other.bookSingers, 0, bookSingers, 0, MOST_BOOK);
            System.arraycopy(other.bookBears, 0, bookBears, 0, MOST_BOOK);
        }
    }

    /** One singer's acts, and which bodies ran in them. */
    private static final class Acts {
        /** The longest run of calls has five open; deeper ones would be a fault in the table. */
        private static final int MOST_DEEP = 16;

        int number;
        int kind;
        int v;
        int ran;
        final int[] kept = new int[MOST_KEPT];

        int perform(int act, int x) {
            return callFrom(kind, act, x, 0);
        }

        /** Runs the body of the kind, or of the next kind above it that has one. */
        private int callFrom(int from, int act, int x, int depth) {
            int at = from;
            for (int step = 0; step < KINDS && at >= 0 && at < KINDS; step++) {
                int body = BODIES[at * ACTS + act];
                if (body != 0) {
                    return runBody(body, x, depth + 1);
                }
                at = KIND_ABOVE[at];
            }
            return 0;
        }

        private int runBody(int body, int x, int depth) {
            if (depth > MOST_DEEP) {
                return 0;
            }
            if (ran < MOST_KEPT) {
                kept[ran] = body;
            }
            ran++;
            switch (body) {
                case 1: return x + number;
                case 2: return callFrom(kind, SINGS, x, depth) - v;
                case 3: return callFrom(kind, BEARS, x, depth) * 2;
                case 11: return callFrom(SINGER, SINGS, x * 3, depth);
                case 21: return -callFrom(SINGER, BEARS, x, depth);
                case 31: return callFrom(SINGER, TELLS, x, depth) ^ 7;
                case 41: return callFrom(BASS, TELLS, x - 1, depth) + callFrom(kind, SINGS, 2, depth);
                case 51: return callFrom(BOY, SINGS, x, depth) ^ number;
                case 61: return callFrom(STRONG, BEARS, x, depth) + v;
                default: return 0;
            }
        }
    }
}
