import java.util.Arrays;

/** Quarrels fought with lilies, day by day: what is told of them, how they go, what had better be. */
public final class LilyQuarrels {
    public static final int NONE = -1, BAD = -2, NOT = -3, FULL = -4;

    private static final int PEOPLE_TEXT = 0, QUARRELS_TEXT = 1, GLASS_TEXT = 2, TEXTS = 3;
    private static final int MOST_PEOPLE = 8, MOST_QUARRELS = 8, MOST_EVENTS = 8, MOST_SEEN = 8;
    private static final int DAYS = 24, LAST_DAY = 23;
    private static final int CARTER = 0, MILD = 1, HARD = 2;
    private static final int LEAST_TEMPER = 1, MOST_TEMPER = 9;
    private static final int RAIN = 0, FROST = 1;
    private static final int MOST_STOCK = 20, MOST_GOLD = 9, MOST_HEAT = 18;
    private static final int CUT_LATER = 3, MONDAY_LILIES = 5, RAIN_WASHES = 2;
    private static final int NOT_BEGUN = 0, GOES_ON = 1, WAITED = 2, ENDED = 3, VOID = 4;
    private static final int SIXTEENTHS = 16;
    private static final int SHEETS = 4, FORMS = 3, MOST_ITEMS = 60;
    private static final int BYTES = 0, SHORTS = 1;
    private static final int NULL = 1, INDEX = 2, CAST = 3, STORE = 4, SIZE = 5;
    private static final int LEAST_INT = -2147483648, MOST_INT = 2147483647;
    private static final long LEAST_LONG = -9223372036854775808L;
    private static final int[] DIGEST_DAYS = {0, 6, 12, 23};

    private final Text[] texts;
    private final Hill hill;
    /** The days as they are told. */
    private final Course plain;
    /** The days as a plan would have them: it changes the hill, runs this anew, puts the hill back. */
    private final Course trial;
    private final int[] peaceByEvents;
    private boolean peaceIsOld;
    private final Sightings sightings;
    private final int[] goldTally;
    private final Sheet[] sheets;
    private int latestFinding;

    public LilyQuarrels() {
        texts = new Text[TEXTS];
        texts[PEOPLE_TEXT] = new Text(PEOPLE_TEXT, 3, 23);
        texts[QUARRELS_TEXT] = new Text(QUARRELS_TEXT, 4, 31);
        texts[GLASS_TEXT] = new Text(GLASS_TEXT, 1, DAYS);
        hill = new Hill();
        plain = new Course(hill);
        trial = new Course(hill);
        peaceByEvents = new int[1 << MOST_EVENTS];
        peaceIsOld = true;
        sightings = new Sightings();
        goldTally = new int[DAYS * (MOST_GOLD + 1)];
        sheets = new Sheet[SHEETS];
        for (int s = 0; s < SHEETS; s++) {
            sheets[s] = new Sheet();
        }
        latestFinding = 0;
    }

    // ---- people, quarrels, the glass, events

    public int type(int text, int b) {
        if (!isBelow(text, TEXTS) || !isBelow(b, 256)) {
            return BAD;
        }
        if (texts[text].isFull()) {
            return FULL;
        }
        texts[text].append(b);
        takeIn(text);
        return texts[text].length;
    }

    public int wipe(int text) {
        if (!isBelow(text, TEXTS)) {
            return BAD;
        }
        int had = texts[text].length;
        texts[text].cutTo(0);
        takeIn(text);
        return had;
    }

    public int undo(int text) {
        if (!isBelow(text, TEXTS)) {
            return BAD;
        }
        if (texts[text].length == 0) {
            return NOT;
        }
        texts[text].cutTo(texts[text].length - 1);
        takeIn(text);
        return texts[text].length;
    }

    public int fault(int text) {
        return isBelow(text, TEXTS) ? texts[text].faultPlace : BAD;
    }

    public int person(int person, int what) {
        if (!isBelow(person, hill.people) || !isBelow(what, 2)) {
            return BAD;
        }
        return what == 0 ? hill.sort[person] : hill.temper[person];
    }

    public int quarrel(int quarrel, int what) {
        if (!isBelow(quarrel, hill.quarrels) || !isBelow(what, 3)) {
            return BAD;
        }
        if (what == 0) {
            return hill.first[quarrel];
        }
        return what == 1 ? hill.whom[quarrel] : hill.begin[quarrel];
    }

    public int glass(int day) {
        return isBelow(day, DAYS) ? hill.cut[day] : BAD;
    }

    public int event(int kind, int day) {
        if (!Hill.mayBeEvent(kind, day)) {
            return BAD;
        }
        if (hill.events == MOST_EVENTS) {
            return FULL;
        }
        hill.addEvent(kind, day);
        forgetCourses();
        return hill.events;
    }

    public int back() {
        if (hill.events == 0) {
            return NOT;
        }
        hill.dropEvent();
        forgetCourses();
        return hill.events;
    }

    public int read(int s) {
        if (!isBelow(s, SHEETS)) {
            return BAD;
        }
        if (sheets[s].isLost()) {
            return found(NULL);
        }
        int came = 0;
        for (int i = 0; i + 1 < sheets[s].length && hill.events < MOST_EVENTS; i += 2) {
            int kind = sheets[s].items[i];
            int day = sheets[s].items[i + 1];
            if (!Hill.mayBeEvent(kind, day)) {
                break;
            }
            hill.addEvent(kind, day);
            came++;
        }
        forgetCourses();
        return came;
    }

    // ---- days

    public int stands(int day, int quarrel, int what) {
        if (!isBelow(day, DAYS) || !isBelow(quarrel, hill.quarrels) || !isBelow(what, 3)) {
            return BAD;
        }
        plain.runTo(day);
        if (what == 0) {
            return plain.stateOf(quarrel);
        }
        return what == 1 ? plain.heat[quarrel] : plain.blows[quarrel];
    }

    public int at(int day, int person, int what) {
        if (!isBelow(day, DAYS) || !isBelow(person, hill.people) || !isBelow(what, 3)) {
            return BAD;
        }
        plain.runTo(day);
        if (what == 0) {
            return plain.gold[person];
        }
        return what == 1 ? plain.timesStruck[person] : plain.timesStriking[person];
    }

    public int stock(int day, int what) {
        if (!isBelow(day, DAYS) || !isBelow(what, 2)) {
            return BAD;
        }
        plain.runTo(day);
        return what == 0 ? plain.lilies : plain.openQuarrels();
    }

    public int over(int quarrel) {
        if (!isBelow(quarrel, hill.quarrels)) {
            return BAD;
        }
        plain.runTo(LAST_DAY);
        return plain.endDay[quarrel];
    }

    public int mist(int what) {
        if (!isBelow(what, 2)) {
            return BAD;
        }
        plain.runTo(LAST_DAY);
        return what == 0 ? plain.mistDay : plain.mistPerson;
    }

    public int waste() {
        plain.runTo(LAST_DAY);
        return plain.waits;
    }

    public int goldest() {
        plain.runTo(LAST_DAY);
        int most = NONE;
        for (int person = 0; person < hill.people; person++) {
            if (most == NONE || plain.gold[person] > plain.gold[most]) {
                most = person;
            }
        }
        return most;
    }

    public int peace() {
        plain.runTo(LAST_DAY);
        return plain.endedBits();
    }

    // ---- plans

    public int chin(int quarrel, int what) {
        if (!isBelow(quarrel, hill.quarrels) || !isBelow(what, 2)) {
            return BAD;
        }
        trial.runAnew();
        int asTold = trial.blows[quarrel];
        hill.turnAbout(quarrel);
        trial.runAnew();
        int turned = trial.blows[quarrel];
        hill.turnAbout(quarrel);
        if (what == 0) {
            return turned < asTold ? 1 : 0;
        }
        return Math.min(asTold, turned);
    }

    public int dawn(int quarrel, int what) {
        if (!isBelow(quarrel, hill.quarrels) || !isBelow(what, 2)) {
            return BAD;
        }
        int own = hill.begin[quarrel];
        int best = 0;
        int most = NONE;
        for (int day = 0; day < DAYS; day++) {
            hill.begin[quarrel] = day;
            trial.runAnew();
            int ended = Integer.bitCount(trial.endedBits());
            if (ended > most) {
                best = day;
                most = ended;
            }
        }
        hill.begin[quarrel] = own;
        return what == 0 ? best : most;
    }

    public int monday(int what) {
        if (!isBelow(what, 2)) {
            return BAD;
        }
        int best = 0;
        int least = MOST_INT;
        for (int day = 0; day < DAYS; day++) {
            hill.monday = day;
            trial.runAnew();
            if (trial.waits < least) {
                best = day;
                least = trial.waits;
            }
        }
        hill.monday = NONE;
        return what == 0 ? best : least;
    }

    public int spare(int i) {
        if (i != NONE && !isBelow(i, 2)) {
            return BAD;
        }
        int spared = sparedEvents();
        if (spared == NONE) {
            return NONE;
        }
        if (i == NONE) {
            return Integer.bitCount(spared);
        }
        return lowestBit(i == 0 ? spared : spared & (spared - 1));
    }

    // ---- seen, chance, years

    public int seen(int day, int person, int gold) {
        if (!isBelow(day, DAYS) || !isBelow(person, MOST_PEOPLE) || !isBelow(gold, MOST_GOLD + 1)) {
            return BAD;
        }
        if (sightings.size == MOST_SEEN) {
            return FULL;
        }
        sightings.add(day, person, gold);
        return sightings.size;
    }

    public int forget() {
        int had = sightings.size;
        sightings.size = 0;
        return had;
    }

    public int never() {
        int all = hill.allEvents();
        int bits = 0;
        for (int e = 0; e < hill.events; e++) {
            hill.present = all & ~(1 << e);
            trial.runAnew();
            if (sightings.fit(trial)) {
                bits |= 1 << e;
            }
        }
        hill.present = all;
        return bits;
    }

    public int was(int person, int what) {
        if (!isBelow(person, hill.people) || !isBelow(what, 2)) {
            return BAD;
        }
        return what == 0 ? fittingValues(hill.sort, person, CARTER, HARD)
                : fittingValues(hill.temper, person, LEAST_TEMPER, MOST_TEMPER);
    }

    public int ask(int person) {
        if (!isBelow(person, hill.people)) {
            return BAD;
        }
        tallyGold(person);
        int best = 0;
        int least = MOST_INT;
        for (int day = 0; day < DAYS; day++) {
            int likes = mostAlike(day);
            if (likes < least) {
                best = day;
                least = likes;
            }
        }
        return best;
    }

    public long chance(int c, int quarrel, int what) {
        if (!isBelow(c, SIXTEENTHS + 1) || !isBelow(quarrel, hill.quarrels) || !isBelow(what, 2)) {
            return LEAST_LONG - BAD;
        }
        long above = 0;
        int all = hill.allEvents();
        for (int present = 0; present <= all; present++) {
            if ((peaceWith(present) >> quarrel & 1) == 1) {
                above += weightOf(present, c);
            }
        }
        return lowestTerm(above, 1L << 4 * hill.events, what);
    }

    public int years(int seed, int n, int what) {
        if (!isBelow(n, DAYS + 1) || !isBelow(what, 2)) {
            return BAD;
        }
        hill.cutByLots(seed, n);
        trial.runAnew();
        hill.takeGlass(texts[GLASS_TEXT]);
        return what == 0 ? Integer.bitCount(trial.endedBits()) : trial.allGold();
    }

    // ---- sheets

    public int sheet(int s, int form, int n) {
        if (!isBelow(s, SHEETS) || !isBelow(form, FORMS) || n > MOST_ITEMS) {
            return BAD;
        }
        if (n < 0) {
            return found(SIZE);
        }
        sheets[s].renew(form, n);
        return n;
    }

    public int lose(int s) {
        if (!isBelow(s, SHEETS)) {
            return BAD;
        }
        if (sheets[s].isLost()) {
            return found(NULL);
        }
        int had = sheets[s].length;
        sheets[s].renew(NONE, 0);
        return had;
    }

    public int lay(int s, int form, int i, int v) {
        if (!isBelow(s, SHEETS) || !isBelow(form, FORMS)) {
            return BAD;
        }
        int finding = sheets[s].findingOf(form, i);
        if (finding != 0) {
            return found(finding);
        }
        sheets[s].put(i, v);
        return 1;
    }

    public int get(int s, int form, int i) {
        if (!isBelow(s, SHEETS) || !isBelow(form, FORMS)) {
            return LEAST_INT;
        }
        int finding = sheets[s].findingOf(form, i);
        if (finding != 0) {
            latestFinding = finding;
            return LEAST_INT;
        }
        return sheets[s].items[i];
    }

    public int copy(int s, int i, int t, int j, int n) {
        if (!isBelow(s, SHEETS) || !isBelow(t, SHEETS)) {
            return BAD;
        }
        if (sheets[s].isLost() || sheets[t].isLost()) {
            return found(NULL);
        }
        if (sheets[s].form != sheets[t].form) {
            return found(STORE);
        }
        if (!sheets[s].hasSpan(i, n) || !sheets[t].hasSpan(j, n)) {
            return found(INDEX);
        }
        System.arraycopy(sheets[s].items, i, sheets[t].items, j, n);
        return 1;
    }

    public int write(int person, int s) {
        if (!isBelow(person, hill.people) || !isBelow(s, SHEETS)) {
            return BAD;
        }
        if (sheets[s].isLost()) {
            return found(NULL);
        }
        int many = Math.min(sheets[s].length, DAYS);
        plain.runTo(LAST_DAY);
        for (int day = 0; day < many; day++) {
            sheets[s].put(day, plain.goldOn(day, person));
        }
        return many;
    }

    public int count(int what) {
        switch (what) {
            case 0:
                return hill.people;
            case 1:
                return hill.quarrels;
            case 2:
                return texts[GLASS_TEXT].soundLength();
            case 3:
            case 4:
            case 5:
                return texts[what - 3].length;
            case 6:
                return hill.events;
            case 7:
                return sightings.size;
            case 8:
                return latestFinding;
            default:
                return BAD;
        }
    }

    public long digest() {
        long h = 17;
        for (int what = 0; what < 8; what++) {
            h = 31 * h + count(what);
        }
        for (int text = 0; text < TEXTS; text++) {
            h = 31 * h + fault(text);
        }
        for (int quarrel = 0; quarrel < hill.quarrels; quarrel++) {
            h = digestQuarrel(h, quarrel);
        }
        for (int person = 0; person < hill.people; person++) {
            h = digestPerson(h, person);
        }
        for (int day = 0; day < DAYS; day++) {
            h = 31 * h + glass(day);
            h = 31 * h + stock(day, 0);
            h = 31 * h + stock(day, 1);
        }
        h = 31 * h + mist(0);
        h = 31 * h + mist(1);
        h = 31 * h + waste();
        h = 31 * h + goldest();
        h = 31 * h + peace();
        h = 31 * h + monday(0);
        h = 31 * h + monday(1);
        h = 31 * h + spare(NONE);
        h = 31 * h + spare(0);
        h = 31 * h + never();
        h = 31 * h + years(7, 20, 0);
        return 31 * h + years(7, 20, 1);
    }

    private long digestQuarrel(long before, int quarrel) {
        long h = before;
        for (int what = 0; what < 3; what++) {
            h = 31 * h + quarrel(quarrel, what);
        }
        for (int day : DIGEST_DAYS) {
            for (int what = 0; what < 3; what++) {
                h = 31 * h + stands(day, quarrel, what);
            }
        }
        h = 31 * h + over(quarrel);
        h = 31 * h + chin(quarrel, 0);
        h = 31 * h + chin(quarrel, 1);
        h = 31 * h + dawn(quarrel, 0);
        h = 31 * h + dawn(quarrel, 1);
        h = 31 * h + chance(5, quarrel, 0);
        return 31 * h + chance(5, quarrel, 1);
    }

    private long digestPerson(long before, int person) {
        long h = before;
        h = 31 * h + person(person, 0);
        h = 31 * h + person(person, 1);
        for (int day : DIGEST_DAYS) {
            for (int what = 0; what < 3; what++) {
                h = 31 * h + at(day, person, what);
            }
        }
        h = 31 * h + was(person, 0);
        h = 31 * h + was(person, 1);
        return 31 * h + ask(person);
    }

    private static boolean isBelow(int number, int bound) {
        return number >= 0 && number < bound;
    }

    private static int lowestBit(int bits) {
        for (int bit = 0; bit < MOST_EVENTS; bit++) {
            if ((bits >> bit & 1) == 1) {
                return bit;
            }
        }
        return NONE;
    }

    private int found(int finding) {
        latestFinding = finding;
        return -10 - finding;
    }

    private void takeIn(int text) {
        if (text == PEOPLE_TEXT) {
            hill.takePeople(texts[PEOPLE_TEXT]);
        } else if (text == QUARRELS_TEXT) {
            hill.takeQuarrels(texts[QUARRELS_TEXT]);
        } else {
            hill.takeGlass(texts[GLASS_TEXT]);
        }
        forgetCourses();
    }

    private void forgetCourses() {
        plain.restart();
        peaceIsOld = true;
    }

    /** PEACE if just these events are; kept, since a chance asks for as many as 256 of them, often again. */
    private int peaceWith(int present) {
        if (peaceIsOld) {
            Arrays.fill(peaceByEvents, NONE);
            peaceIsOld = false;
        }
        int slot = present & peaceByEvents.length - 1;
        if (peaceByEvents[slot] == NONE) {
            hill.present = slot;
            trial.runAnew();
            peaceByEvents[slot] = trial.endedBits();
            hill.present = hill.allEvents();
        }
        return peaceByEvents[slot];
    }

    /** The fewest events (as bits) without which all is ended, the least row of them; NONE. */
    private int sparedEvents() {
        int all = hill.allEvents();
        int wanted = hill.earnestBits();
        if (peaceWith(all) == wanted) {
            return 0;
        }
        for (int e = 0; e < hill.events; e++) {
            if (peaceWith(all & ~(1 << e)) == wanted) {
                return 1 << e;
            }
        }
        for (int e = 0; e < hill.events; e++) {
            for (int later = e + 1; later < hill.events; later++) {
                int both = 1 << e | 1 << later;
                if (peaceWith(all & ~both) == wanted) {
                    return both;
                }
            }
        }
        return NONE;
    }

    /** The values of a person, in a row of the hill, by which all comes out as seen, as bits. */
    private int fittingValues(int[] row, int person, int least, int most) {
        int own = row[person];
        int bits = 0;
        for (int value = least; value <= most; value++) {
            row[person] = value;
            trial.runAnew();
            if (sightings.fit(trial)) {
                bits |= 1 << value;
            }
        }
        row[person] = own;
        return bits;
    }

    /** By how many of the possible tempers a person has each gold behind each day. */
    private void tallyGold(int person) {
        Arrays.fill(goldTally, 0);
        int own = hill.temper[person];
        for (int temper = LEAST_TEMPER; temper <= MOST_TEMPER; temper++) {
            hill.temper[person] = temper;
            trial.runAnew();
            if (sightings.fit(trial)) {
                for (int day = 0; day < DAYS; day++) {
                    goldTally[day * (MOST_GOLD + 1) + trial.goldOn(day, person)]++;
                }
            }
        }
        hill.temper[person] = own;
    }

    private int mostAlike(int day) {
        int most = 0;
        for (int gold = 0; gold <= MOST_GOLD; gold++) {
            most = Math.max(most, goldTally[day * (MOST_GOLD + 1) + gold]);
        }
        return most;
    }

    /** In how many of 16 by 16 by .. ways just these events are, each by c sixteenths. */
    private long weightOf(int present, int c) {
        long weight = 1;
        for (int e = 0; e < hill.events; e++) {
            weight *= (present >> e & 1) == 1 ? c : SIXTEENTHS - c;
        }
        return weight;
    }

    /** Below is a power of 2 here, so halving is all that lowest terms need. */
    private static long lowestTerm(long above, long below, int what) {
        if (above == 0) {
            return what == 0 ? 0 : 1;
        }
        long up = above;
        long down = below;
        for (int i = 0; i < 4 * MOST_EVENTS && (up & 1) == 0 && (down & 1) == 0; i++) {
            up >>= 1;
            down >>= 1;
        }
        return what == 0 ? up : down;
    }

    /** A text as it was typed, well or not. */
    private static final class Text {
        private final int kind;
        /** How many bytes from the first one of a thing to the first one of the next. */
        private final int stride;
        private final int[] bytes;
        private int length;
        private int faultPlace;

        Text(int kind, int stride, int most) {
            this.kind = kind;
            this.stride = stride;
            bytes = new int[most];
            length = 0;
            faultPlace = NONE;
        }

        boolean isFull() {
            return length >= bytes.length;
        }

        void append(int b) {
            if (length < bytes.length) {
                bytes[length] = b;
                length++;
                faultPlace = findFault();
            }
        }

        void cutTo(int left) {
            length = left;
            faultPlace = findFault();
        }

        int soundLength() {
            return faultPlace == NONE ? length : 0;
        }

        /** A ninth thing needs no look: each text is full with its eighth. */
        private int findFault() {
            int part = 0;
            for (int place = 0; place < length; place++) {
                if (!fits(part, bytes[place])) {
                    return place;
                }
                part = part + 1 < stride ? part + 1 : 0;
            }
            return length == 0 || part == stride - 1 ? NONE : length;
        }

        private boolean fits(int part, int b) {
            if (kind == GLASS_TEXT) {
                return isAmong(b, '0', '9');
            }
            if (part == stride - 1) {
                return b == ';';
            }
            if (kind == PEOPLE_TEXT) {
                return part == 0 ? sortOf(b) != NONE : isAmong(b, '1', '9');
            }
            return part < 2 ? isAmong(b, '0', '7') : isAmong(b, 'a', 'x');
        }

        private static boolean isAmong(int b, int least, int most) {
            return b >= least && b <= most;
        }

        static int sortOf(int b) {
            if (b == 'c') {
                return CARTER;
            }
            if (b == 'm') {
                return MILD;
            }
            return b == 'h' ? HARD : NONE;
        }
    }

    /** What is told: people, quarrels, lilies cut, events. Nothing here goes by days yet. */
    private static final class Hill {
        private int people;
        private final int[] sort = new int[MOST_PEOPLE];
        private final int[] temper = new int[MOST_PEOPLE];
        private int quarrels;
        private final int[] first = new int[MOST_QUARRELS];
        private final int[] whom = new int[MOST_QUARRELS];
        private final int[] begin = new int[MOST_QUARRELS];
        private final int[] cut = new int[DAYS];
        /** The day on which a plan brings more lilies; NONE. */
        private int monday;
        private int events;
        private final int[] eventKind = new int[MOST_EVENTS];
        private final int[] eventDay = new int[MOST_EVENTS];
        /** Which events are, as bits: all of them but while a plan does without some. */
        private int present;

        Hill() {
            people = 0;
            quarrels = 0;
            Arrays.fill(cut, CUT_LATER);
            monday = NONE;
            events = 0;
            present = 0;
        }

        void takePeople(Text text) {
            people = 0;
            for (int i = 0; i + 1 < text.soundLength() && people < MOST_PEOPLE; i += text.stride) {
                sort[people] = Text.sortOf(text.bytes[i]);
                temper[people] = text.bytes[i + 1] - '0';
                people++;
            }
        }

        void takeQuarrels(Text text) {
            quarrels = 0;
            for (int i = 0; i + 2 < text.soundLength() && quarrels < MOST_QUARRELS; i += text.stride) {
                first[quarrels] = text.bytes[i] - '0';
                whom[quarrels] = text.bytes[i + 1] - '0';
                begin[quarrels] = text.bytes[i + 2] - 'a';
                quarrels++;
            }
        }

        void takeGlass(Text text) {
            for (int day = 0; day < DAYS; day++) {
                cut[day] = day < text.soundLength() ? text.bytes[day] - '0' : CUT_LATER;
            }
        }

        void cutByLots(int seed, int n) {
            int next = seed;
            for (int day = 0; day < DAYS; day++) {
                next = 1103515245 * next + 12345;
                cut[day] = day < n ? (next >>> 16) % 10 : CUT_LATER;
            }
        }

        static boolean mayBeEvent(int kind, int day) {
            return (kind == RAIN || kind == FROST) && isBelow(day, DAYS);
        }

        void addEvent(int kind, int day) {
            if (events < MOST_EVENTS) {
                eventKind[events] = kind;
                eventDay[events] = day;
                events++;
                present = allEvents();
            }
        }

        void dropEvent() {
            events--;
            present = allEvents();
        }

        int allEvents() {
            return (1 << events) - 1;
        }

        int eventsOn(int day, int kind) {
            int many = 0;
            for (int e = 0; e < events; e++) {
                if ((present >> e & 1) == 1 && eventKind[e] == kind && eventDay[e] == day) {
                    many++;
                }
            }
            return many;
        }

        int liliesOn(int day) {
            int grown = eventsOn(day, FROST) > 0 ? 0 : cut[day];
            return day == monday ? grown + MONDAY_LILIES : grown;
        }

        void turnAbout(int quarrel) {
            int told = first[quarrel];
            first[quarrel] = whom[quarrel];
            whom[quarrel] = told;
        }

        boolean isVoid(int quarrel) {
            return first[quarrel] >= people || whom[quarrel] >= people || first[quarrel] == whom[quarrel];
        }

        /** Quarrels that are not void, as bits. */
        int earnestBits() {
            int bits = 0;
            for (int quarrel = 0; quarrel < quarrels; quarrel++) {
                if (!isVoid(quarrel)) {
                    bits |= 1 << quarrel;
                }
            }
            return bits;
        }
    }

    /** How the days go on a hill, up to the day that was asked for last. */
    private static final class Course {
        private final Hill hill;
        private int today;
        private int lilies;
        private int waits;
        private int mistDay;
        private int mistPerson;
        private final int[] gold = new int[MOST_PEOPLE];
        private final int[] timesStruck = new int[MOST_PEOPLE];
        private final int[] timesStriking = new int[MOST_PEOPLE];
        private final int[] heat = new int[MOST_QUARRELS];
        private final int[] blows = new int[MOST_QUARRELS];
        private final int[] waitDay = new int[MOST_QUARRELS];
        private final int[] endDay = new int[MOST_QUARRELS];
        private final int[] goldBehind = new int[DAYS * MOST_PEOPLE];

        Course(Hill hill) {
            this.hill = hill;
            today = NONE;
        }

        void restart() {
            today = NONE;
        }

        /** Goes on from where it stands, unless the day is past: then from the start. */
        void runTo(int day) {
            if (today == NONE || day < today) {
                clear();
            }
            for (int next = today + 1; next <= day && next < DAYS; next++) {
                pass(next);
            }
        }

        void runAnew() {
            clear();
            for (int day = 0; day < DAYS; day++) {
                pass(day);
            }
        }

        private void clear() {
            today = NONE;
            lilies = 0;
            waits = 0;
            mistDay = NONE;
            mistPerson = NONE;
            Arrays.fill(gold, 0);
            Arrays.fill(timesStruck, 0);
            Arrays.fill(timesStriking, 0);
            Arrays.fill(blows, 0);
            Arrays.fill(waitDay, NONE);
            Arrays.fill(endDay, NONE);
            for (int quarrel = 0; quarrel < hill.quarrels; quarrel++) {
                heat[quarrel] = hill.isVoid(quarrel) ? 0
                        : hill.temper[hill.first[quarrel]] + hill.temper[hill.whom[quarrel]];
            }
        }

        private void pass(int day) {
            int washed = RAIN_WASHES * hill.eventsOn(day, RAIN);
            for (int person = 0; person < hill.people; person++) {
                gold[person] = Math.max(0, gold[person] - washed);
            }
            lilies = Math.min(MOST_STOCK, lilies + hill.liliesOn(day));
            for (int quarrel = 0; quarrel < hill.quarrels; quarrel++) {
                if (endDay[quarrel] == NONE && hill.begin[quarrel] <= day && !hill.isVoid(quarrel)) {
                    boolean told = (blows[quarrel] & 1) == 0;
                    int striker = told ? hill.first[quarrel] : hill.whom[quarrel];
                    int other = told ? hill.whom[quarrel] : hill.first[quarrel];
                    if (hill.sort[striker] == MILD) {
                        heat[quarrel]--;
                    } else if (lilies == 0) {
                        waitFor(quarrel, striker, day);
                    } else {
                        strike(quarrel, striker, other);
                    }
                    settle(quarrel, day);
                }
            }
            keepGold(day);
            today = day;
        }

        private void waitFor(int quarrel, int striker, int day) {
            waits++;
            waitDay[quarrel] = day;
            if (hill.sort[striker] == HARD) {
                heat[quarrel] = Math.min(MOST_HEAT, heat[quarrel] + 1);
            }
        }

        private void strike(int quarrel, int striker, int struck) {
            lilies--;
            blows[quarrel]++;
            timesStriking[striker]++;
            timesStruck[struck]++;
            int pollen = hill.sort[struck] == CARTER ? 2 : 1;
            gold[struck] = Math.min(MOST_GOLD, gold[struck] + pollen);
            heat[quarrel] -= hill.sort[struck] == MILD ? 3 : 1;
        }

        private void settle(int quarrel, int day) {
            heat[quarrel] = Math.max(0, heat[quarrel]);
            boolean golden = gold[hill.first[quarrel]] == MOST_GOLD || gold[hill.whom[quarrel]] == MOST_GOLD;
            if (golden || heat[quarrel] == 0) {
                endDay[quarrel] = day;
            }
        }

        private void keepGold(int day) {
            for (int person = 0; person < hill.people; person++) {
                goldBehind[day * MOST_PEOPLE + person] = gold[person];
                if (mistDay == NONE && gold[person] == MOST_GOLD) {
                    mistDay = day;
                    mistPerson = person;
                }
            }
        }

        int goldOn(int day, int person) {
            return goldBehind[day * MOST_PEOPLE + person];
        }

        int allGold() {
            int all = 0;
            for (int person = 0; person < hill.people; person++) {
                all += gold[person];
            }
            return all;
        }

        int stateOf(int quarrel) {
            if (hill.isVoid(quarrel)) {
                return VOID;
            }
            if (endDay[quarrel] != NONE) {
                return ENDED;
            }
            if (hill.begin[quarrel] > today) {
                return NOT_BEGUN;
            }
            return waitDay[quarrel] == today ? WAITED : GOES_ON;
        }

        int openQuarrels() {
            int open = 0;
            for (int quarrel = 0; quarrel < hill.quarrels; quarrel++) {
                int state = stateOf(quarrel);
                if (state == GOES_ON || state == WAITED) {
                    open++;
                }
            }
            return open;
        }

        int endedBits() {
            int bits = 0;
            for (int quarrel = 0; quarrel < hill.quarrels; quarrel++) {
                if (endDay[quarrel] != NONE) {
                    bits |= 1 << quarrel;
                }
            }
            return bits;
        }
    }

    /** What was seen: how golden somebody was behind a day. */
    private static final class Sightings {
        private int size;
        private final int[] days = new int[MOST_SEEN];
        private final int[] persons = new int[MOST_SEEN];
        private final int[] golds = new int[MOST_SEEN];

        Sightings() {
            size = 0;
        }

        void add(int day, int person, int gold) {
            if (size < MOST_SEEN) {
                days[size] = day;
                persons[size] = person;
                golds[size] = gold;
                size++;
            }
        }

        /** A person who is not there never comes out as seen. */
        boolean fit(Course course) {
            for (int i = 0; i < size; i++) {
                if (persons[i] >= course.hill.people || course.goldOn(days[i], persons[i]) != golds[i]) {
                    return false;
                }
            }
            return true;
        }
    }

    /** A row of items of a form, or lost (form NONE); its room is made once and used again. */
    private static final class Sheet {
        private int form;
        private int length;
        private final int[] items = new int[MOST_ITEMS];

        Sheet() {
            form = NONE;
            length = 0;
        }

        boolean isLost() {
            return form == NONE;
        }

        void renew(int newForm, int n) {
            form = newForm;
            length = n;
            Arrays.fill(items, 0);
        }

        /** What is found if item i is treated as of a form; 0 if all is well. */
        int findingOf(int asForm, int i) {
            if (isLost()) {
                return NULL;
            }
            if (form != asForm) {
                return CAST;
            }
            return isBelow(i, length) ? 0 : INDEX;
        }

        boolean hasSpan(int from, int n) {
            return from >= 0 && n >= 0 && from <= length - n;
        }

        void put(int i, int v) {
            if (form == BYTES) {
                items[i] = (byte) v;
            } else if (form == SHORTS) {
                items[i] = (short) v;
            } else {
                items[i] = v;
            }
        }
    }
}
