/** Magpies for one night: a bridge of birds across a river, as ../shared/DOC.md tells it. */
public final class BirdBridge {
    public static final int BAD = -1, NO = -2, FULL = -3, NONE = -4;

    private static final String FIRST_TEXT =
        "b30,2,0,5;b20,1,1,0;b18,2,2,9;b40,1,3,3;b25,2,4,7;r5;w2;w6;w0;l12,1;";
    private static final int MOST_LETTERS = 200, MOST_BIRDS = 8, MOST_WINDS = 8;
    private static final int MOST_UNDONE = 8, MOST_KEPT = 2, MOST_SEEN = 6;
    private static final int CROW = 1, FLEDGLING = 2, PROUD = 3, PAIRED = 4;
    private static final int LEFT_BANK = -1;
    private static final int LAST_YEAR = 20, LATEST_SECOND = 20;

    private final Script script;
    private final Flock laid;
    private final Flock draft;
    private final Night night;
    private final Bridge trial;
    private final Shelf past;
    private final Shelf kept;
    private final Search search;
    private final int[] seenWhich;
    private final int[] seenTired;
    private int seenSize;

    public BirdBridge() {
        script = new Script();
        laid = new Flock();
        draft = new Flock();
        night = new Night(laid);
        trial = new Bridge(laid);
        past = new Shelf(laid, MOST_UNDONE);
        kept = new Shelf(laid, MOST_KEPT);
        search = new Search(laid);
        seenWhich = new int[MOST_SEEN];
        seenTired = new int[MOST_SEEN];
        seenSize = 0;
        for (int i = 0; i < FIRST_TEXT.length(); i++) {
            script.append(FIRST_TEXT.charAt(i));
        }
        script.readInto(laid);
        script.clear();
    }

    // ---- rivers

    public int write(int letter) {
        if (letter < 32 || letter > 126) {
            return BAD;
        }
        return script.append(letter) ? script.length() : FULL;
    }

    public int wipe() {
        int was = script.length();
        script.clear();
        return was;
    }

    public int fault() {
        return script.readInto(draft);
    }

    public int lay() {
        if (script.readInto(draft) != NONE || draft.birds() == 0) {
            return NO;
        }
        laid.copyFrom(draft);
        night.begin();
        past.clear();
        kept.clear();
        search.begin();
        seenSize = 0;
        return laid.birds();
    }

    public int bird(int b, int what) {
        if (!isBird(b)) {
            return BAD;
        }
        switch (what) {
            case 0: return laid.strengthOf(b);
            case 1: return laid.lengthOf(b);
            case 2: return laid.kindOf(b);
            case 3: return laid.woodOf(b);
            case 4: return night.bridge().tiredOf(b);
            case 5: return night.bridge().positionOf(b);
            default: return BAD;
        }
    }

    public int wind(int t) {
        return t < 0 || t > 99 ? BAD : laid.windIn(t);
    }

    public int span(int k, int what) {
        Bridge bridge = night.bridge();
        if (k < 0 || k >= bridge.size()) {
            return BAD;
        }
        switch (what) {
            case 0: return bridge.birdAt(k);
            case 1: return bridge.firstPlaceOf(k);
            case 2: return bridge.powerAt(k);
            case 3: return loadNow(k);
            default: return BAD;
        }
    }

    // ---- the night

    public int join(int b) {
        if (!isBird(b)) {
            return BAD;
        }
        if (night.isFixed() || !night.bridge().mayJoin(b)) {
            return NO;
        }
        past.put(night);
        night.bridge().append(b);
        return night.bridge().size();
    }

    public int leave() {
        Bridge bridge = night.bridge();
        if (night.isFixed() || bridge.size() == 0) {
            return NO;
        }
        past.put(night);
        int last = bridge.birdAt(bridge.size() - 1);
        bridge.dropLast();
        return last;
    }

    public int step() {
        if (night.isBroken() || !night.bridge().isWhole() || night.place() >= laid.width()) {
            return NO;
        }
        past.put(night);
        return night.passMinuteAt(night.place() + 1) ? night.place() : NONE;
    }

    public int stand() {
        if (night.isBroken() || !night.isOnBridge()) {
            return NO;
        }
        past.put(night);
        return night.passMinuteAt(night.place()) ? night.place() : NONE;
    }

    public int year(int n) {
        if (n < 0 || n > LAST_YEAR) {
            return BAD;
        }
        if (night.isFixed()) {
            return NO;
        }
        past.put(night);
        night.setYear(n);
        return night.weight();
    }

    public int undo() {
        return past.takeInto(night) ? past.size() : NO;
    }

    // ---- what would be

    public int over(int what) {
        if (what < 0 || what > 1) {
            return BAD;
        }
        if (night.isBroken() || !night.bridge().isWhole()) {
            return NO;
        }
        trial.copyFrom(night.bridge());
        int first = night.place() + 1;
        int end = laid.width();
        int breakPlace = trial.walk(first, end, night.minute(), night.weight());
        if (breakPlace >= end) {
            return NONE;
        }
        return what == 0 ? night.minute() + breakPlace - first : breakPlace;
    }

    public int fewest(int k) {
        if (k < -1 || k >= MOST_BIRDS) {
            return BAD;
        }
        search.find(night.weight());
        return k == -1 ? search.foundSize() : search.foundAt(k);
    }

    public int mend(int k) {
        Bridge bridge = night.bridge();
        if (k < 0 || k >= bridge.size()) {
            return BAD;
        }
        if (!bridge.isWhole()) {
            return NO;
        }
        for (int b = 0; b < laid.birds(); b++) {
            if (mends(k, b)) {
                return b;
            }
        }
        return NONE;
    }

    public int calls(int k) {
        Bridge bridge = night.bridge();
        if (k < -1 || k >= bridge.size()) {
            return BAD;
        }
        int lastThere = 0;
        for (int i = 0; i < bridge.size(); i++) {
            int called = callMinute(i);
            if (called == k) {
                return bridge.birdAt(i);
            }
            lastThere = Math.max(lastThere, called + laid.woodOf(bridge.birdAt(i)));
        }
        return lastThere;
    }

    public int second(int h) {
        if (h < 1 || h > 40) {
            return BAD;
        }
        if (!night.bridge().isWhole()) {
            return NO;
        }
        for (int t = 0; t <= LATEST_SECOND; t++) {
            if (bothComeOver(h, t)) {
                return t;
            }
        }
        return NONE;
    }

    public int years() {
        if (!night.bridge().isWhole()) {
            return NO;
        }
        for (int y = 0; y <= LAST_YEAR; y++) {
            trial.copyRested(night.bridge());
            if (trial.walk(0, laid.width(), 0, laid.weightIn(y)) < laid.width()) {
                return y;
            }
        }
        return NONE;
    }

    // ---- what was

    public int seen(int k, int h) {
        if (k < 0 || k >= night.bridge().size() || h < 0 || h > 99) {
            return BAD;
        }
        if (seenSize >= MOST_SEEN) {
            return FULL;
        }
        seenWhich[seenSize] = k;
        seenTired[seenSize] = h;
        seenSize++;
        return seenSize;
    }

    public int forget() {
        int were = seenSize;
        seenSize = 0;
        return were;
    }

    public int stood(int m) {
        if (m < 1 || m > 20) {
            return BAD;
        }
        if (!night.bridge().isWhole()) {
            return NO;
        }
        int places = 0;
        for (int p = 0; p < laid.width(); p++) {
            if (isAsSeen(p, m)) {
                places |= 1 << p;
            }
        }
        return places;
    }

    public int rain(int x) {
        if (x < 0 || x > 10) {
            return BAD;
        }
        long chance = 1000000;
        long whole = 1;
        for (int minute = 0; minute < laid.width(); minute++) {
            chance *= 10 - x;
            whole *= 10;
        }
        return (int) (chance / whole);
    }

    public int century(int z, int n, int what) {
        if (z < 0 || z > 9999 || n < 1 || n > 90 || what < 0 || what > 1) {
            return BAD;
        }
        if (!night.bridge().isWhole()) {
            return NO;
        }
        int comesOver = 0;
        int firstBreak = NONE;
        for (int y = 0; y < n; y++) {
            if (comesOverByDraws(z, y)) {
                comesOver++;
            } else if (firstBreak == NONE) {
                firstBreak = y;
            }
        }
        return what == 0 ? comesOver : firstBreak;
    }

    public int keep() {
        if (kept.isFull()) {
            return FULL;
        }
        kept.put(night);
        return kept.size();
    }

    public int back() {
        if (!kept.takeInto(night)) {
            return NO;
        }
        past.clear();
        return kept.size();
    }

    public int count(int what) {
        switch (what) {
            case 0: return laid.birds();
            case 1: return night.bridge().size();
            case 2: return night.bridge().placesSpanned();
            case 3: return laid.width();
            case 4: return night.minute();
            case 5: return night.yearNow();
            case 6: return night.isBroken() ? 1 : 0;
            case 7: return seenSize;
            case 8: return past.size();
            case 9: return kept.size();
            case 10: return script.length();
            default: return BAD;
        }
    }

    // ---- what the calls share

    private boolean isBird(int b) {
        return b >= 0 && b < laid.birds();
    }

    /** What the k-th would bear in the minute that comes next, if she stayed. */
    private int loadNow(int k) {
        trial.copyFrom(night.bridge());
        trial.unload();
        if (night.isOnBridge()) {
            trial.press(night.place(), night.weight() + laid.windIn(night.minute()));
        }
        return trial.borneAt(k);
    }

    private boolean mends(int k, int b) {
        Bridge bridge = night.bridge();
        if (bridge.positionOf(b) != NONE || laid.lengthOf(b) != laid.lengthOf(bridge.birdAt(k))) {
            return false;
        }
        trial.copyFrom(bridge);
        trial.replace(k, b);
        return trial.walk(0, laid.width(), night.minute(), night.weight()) >= laid.width();
    }

    /** The minute in which the i-th of THE BRIDGE is called: as many as are called ahead of it. */
    private int callMinute(int i) {
        Bridge bridge = night.bridge();
        int own = bridge.birdAt(i);
        int ahead = 0;
        for (int j = 0; j < bridge.size(); j++) {
            int other = bridge.birdAt(j);
            int farther = laid.woodOf(other) - laid.woodOf(own);
            if (farther > 0 || farther == 0 && other < own) {
                ahead++;
            }
        }
        return ahead;
    }

    private boolean bothComeOver(int h, int late) {
        trial.copyRested(night.bridge());
        int width = laid.width();
        for (int minute = 0; minute < late + width; minute++) {
            int wind = laid.windIn(minute);
            boolean sheIsOn = minute < width;
            trial.unload();
            if (sheIsOn) {
                trial.press(minute, night.weight() + wind);
            }
            if (minute >= late) {
                trial.press(width - 1 - (minute - late), sheIsOn ? h : h + wind);
            }
            if (!trial.settle()) {
                return false;
            }
        }
        return true;
    }

    /** Whether all that is SEEN would be so, had she stood at the place for so many minutes. */
    private boolean isAsSeen(int place, int minutes) {
        trial.copyRested(night.bridge());
        for (int minute = 0; minute < minutes; minute++) {
            trial.loadAlone(place, night.weight() + laid.windIn(minute));
            trial.tire();
        }
        for (int i = 0; i < seenSize; i++) {
            if (seenWhich[i] >= trial.size() || trial.tiredOf(trial.birdAt(seenWhich[i])) != seenTired[i]) {
                return false;
            }
        }
        return true;
    }

    private boolean comesOverByDraws(int z, int y) {
        trial.copyRested(night.bridge());
        int weight = laid.weightIn(y);
        for (int k = 0; k < laid.width(); k++) {
            trial.loadAlone(k, weight + drawnWind(z, y, k));
            if (!trial.settle()) {
                return false;
            }
        }
        return true;
    }

    private static int drawnWind(int z, int y, int k) {
        long x = 7919L * z + 6151L * y + 331L * k + 1;
        long draw = x * x % 65521 / 8;
        return (int) (draw % 21);
    }

    /** THE TEXT, and how it is read. */
    private static final class Script {
        private final char[] letters = new char[MOST_LETTERS];
        private final int[] numbers = new int[4];
        private int length = 0;

        int length() {
            return length;
        }

        void clear() {
            length = 0;
        }

        boolean append(int letter) {
            if (length >= letters.length) {
                return false;
            }
            letters[length] = (char) letter;
            length++;
            return true;
        }

        /** Reads all ITEMS into a flock: the place of the first that is not so, or NONE. */
        int readInto(Flock flock) {
            flock.clear();
            int start = 0;
            while (start < length) {
                int end = readItem(start);
                if (end <= start || !flock.take(letterAt(start), numbers)) {
                    return start;
                }
                start = end;
            }
            return NONE;
        }

        /** Reads the numbers of the ITEM that starts there: the place behind it, or NONE. */
        private int readItem(int start) {
            int most = numbersBehind(letterAt(start));
            int at = start + 1;
            for (int n = 0; n < most && n < numbers.length; n++) {
                int figures = figuresFrom(at);
                if (figures == 0) {
                    return NONE;
                }
                numbers[n] = numberAt(at, figures);
                at += figures;
                if (letterAt(at) != (n == most - 1 ? ';' : ',')) {
                    return NONE;
                }
                at++;
            }
            return most == 0 ? NONE : at;
        }

        private static int numbersBehind(char letter) {
            switch (letter) {
                case 'b': return 4;
                case 'l': return 2;
                case 'r': return 1;
                case 'w': return 1;
                default: return 0;
            }
        }

        /** How many figures stand there, two at most: a third one is then no sign that parts. */
        private int figuresFrom(int at) {
            if (!isFigure(letterAt(at))) {
                return 0;
            }
            return isFigure(letterAt(at + 1)) ? 2 : 1;
        }

        private int numberAt(int at, int figures) {
            int number = 0;
            for (int i = 0; i < figures; i++) {
                number = number * 10 + (letterAt(at + i) - '0');
            }
            return number;
        }

        private static boolean isFigure(char letter) {
            return letter >= '0' && letter <= '9';
        }

        private char letterAt(int place) {
            return place >= 0 && place < length && place < letters.length ? letters[place] : (char) 0;
        }
    }

    /** What a TEXT tells: the BIRDS, the RIVER, the WINDS and how heavy she is. */
    private static final class Flock {
        private final int[] strengths = new int[MOST_BIRDS];
        private final int[] lengths = new int[MOST_BIRDS];
        private final int[] kinds = new int[MOST_BIRDS];
        private final int[] woods = new int[MOST_BIRDS];
        private final int[] winds = new int[MOST_WINDS];
        private int birds;
        private int windCount;
        private int width;
        private int heaviness;
        private int growth;

        Flock() {
            clear();
        }

        void clear() {
            birds = 0;
            windCount = 0;
            width = 5;
            heaviness = 12;
            growth = 1;
        }

        void copyFrom(Flock other) {
            System.arraycopy(other.strengths, 0, strengths, 0, MOST_BIRDS);
            System.arraycopy(other.lengths, 0, lengths, 0, MOST_BIRDS);
            System.arraycopy(other.kinds, 0, kinds, 0, MOST_BIRDS);
            System.arraycopy(other.woods, 0, woods, 0, MOST_BIRDS);
            System.arraycopy(other.winds, 0, winds, 0, MOST_WINDS);
            birds = other.birds;
            windCount = other.windCount;
            width = other.width;
            heaviness = other.heaviness;
            growth = other.growth;
        }

        /** Takes what an ITEM tells; false, if its numbers are not so or there are too many such. */
        boolean take(char letter, int[] numbers) {
            if (numbers.length < 4) {
                return false;
            }
            switch (letter) {
                case 'b': return takeBird(numbers[0], numbers[1], numbers[2], numbers[3]);
                case 'r': return takeRiver(numbers[0]);
                case 'w': return takeWind(numbers[0]);
                case 'l': return takeLoad(numbers[0], numbers[1]);
                default: return false;
            }
        }

        private boolean takeBird(int strength, int length, int kind, int wood) {
            if (birds >= MOST_BIRDS || strength < 1 || strength > 60 || length < 1 || length > 3
                    || kind < 0 || kind > PAIRED || wood < 0 || wood > 40) {
                return false;
            }
            strengths[birds] = strength;
            lengths[birds] = length;
            kinds[birds] = kind;
            woods[birds] = wood;
            birds++;
            return true;
        }

        private boolean takeRiver(int places) {
            if (places < 1 || places > 9) {
                return false;
            }
            width = places;
            return true;
        }

        private boolean takeWind(int strength) {
            if (windCount >= MOST_WINDS || strength < 0 || strength > 20) {
                return false;
            }
            winds[windCount] = strength;
            windCount++;
            return true;
        }

        private boolean takeLoad(int heavy, int heavier) {
            if (heavy < 1 || heavy > 40 || heavier < 0 || heavier > 9) {
                return false;
            }
            heaviness = heavy;
            growth = heavier;
            return true;
        }

        int birds() {
            return birds;
        }

        int width() {
            return width;
        }

        int strengthOf(int b) {
            return b >= 0 && b < birds ? strengths[b] : 0;
        }

        int lengthOf(int b) {
            return b >= 0 && b < birds ? lengths[b] : 0;
        }

        int kindOf(int b) {
            return b >= 0 && b < birds ? kinds[b] : NONE;
        }

        int woodOf(int b) {
            return b >= 0 && b < birds ? woods[b] : 0;
        }

        int windIn(int minute) {
            return minute < 0 || windCount == 0 ? 0 : winds[minute % windCount];
        }

        int weightIn(int year) {
            return heaviness + growth * year;
        }

        boolean hasCrow() {
            for (int b = 0; b < birds; b++) {
                if (kinds[b] == CROW) {
                    return true;
                }
            }
            return false;
        }
    }

    /** BIRDS one behind the other, how tired all are, and what those in it bear in a minute. */
    private static final class Bridge {
        private final Flock flock;
        private final int[] order = new int[MOST_BIRDS];
        private final int[] tired = new int[MOST_BIRDS];
        private final int[] borne = new int[MOST_BIRDS];
        private int size = 0;

        Bridge(Flock flock) {
            this.flock = flock;
        }

        void clear() {
            size = 0;
            rest();
        }

        void rest() {
            for (int b = 0; b < MOST_BIRDS; b++) {
                tired[b] = 0;
            }
        }

        void copyFrom(Bridge other) {
            System.arraycopy(other.order, 0, order, 0, MOST_BIRDS);
            System.arraycopy(other.tired, 0, tired, 0, MOST_BIRDS);
            size = other.size;
        }

        void copyRested(Bridge other) {
            copyFrom(other);
            rest();
        }

        int size() {
            return size;
        }

        int birdAt(int k) {
            return k >= 0 && k < size ? order[k] : NONE;
        }

        int kindAt(int k) {
            return k >= 0 && k < size ? flock.kindOf(order[k]) : NONE;
        }

        int borneAt(int k) {
            return k >= 0 && k < size ? borne[k] : 0;
        }

        int tiredOf(int b) {
            return b >= 0 && b < MOST_BIRDS ? tired[b] : 0;
        }

        int positionOf(int b) {
            for (int k = 0; k < size; k++) {
                if (order[k] == b) {
                    return k;
                }
            }
            return NONE;
        }

        int firstPlaceOf(int k) {
            int place = 0;
            for (int i = 0; i < k && i < size; i++) {
                place += flock.lengthOf(order[i]);
            }
            return place;
        }

        int placesSpanned() {
            return Math.min(firstPlaceOf(size), flock.width());
        }

        boolean isWhole() {
            return firstPlaceOf(size) >= flock.width();
        }

        boolean mayJoin(int b) {
            if (size >= MOST_BIRDS || isWhole() || positionOf(b) != NONE) {
                return false;
            }
            int kind = flock.kindOf(b);
            if (size == 0) {
                return kind == CROW || !flock.hasCrow();
            }
            return kind != PROUD || kindAt(size - 1) != PROUD;
        }

        void append(int b) {
            if (size < MOST_BIRDS) {
                order[size] = b;
                size++;
            }
        }

        void dropLast() {
            if (size > 0) {
                size--;
            }
        }

        void replace(int k, int b) {
            if (k >= 0 && k < size) {
                order[k] = b;
            }
        }

        int powerAt(int k) {
            int bird = birdAt(k);
            boolean amid = k > 0 && k < size - 1;
            boolean besidePaired = kindAt(k - 1) == PAIRED || kindAt(k + 1) == PAIRED;
            return powerOf(flock.kindOf(bird), flock.strengthOf(bird) - tiredOf(bird), amid, besidePaired);
        }

        /** POWER of one that has so much of its STRENGTH left. */
        static int powerOf(int kind, int left, boolean amid, boolean besidePaired) {
            if (kind == CROW && amid) {
                return left / 2;
            }
            return kind == PAIRED && besidePaired ? left + 5 : left;
        }

        void unload() {
            for (int k = 0; k < MOST_BIRDS; k++) {
                borne[k] = 0;
            }
        }

        /** Lays a LOAD on a place: all of it on who spans it, parts on those beside and behind. */
        void press(int place, int load) {
            int under = whoSpans(place);
            if (under == NONE) {
                return;
            }
            for (int k = 0; k < size; k++) {
                borne[k] += partOf(load, Math.abs(k - under));
            }
        }

        /** What one bears that is so many BIRDS apart from the one that spans the place. */
        static int partOf(int load, int apart) {
            switch (apart) {
                case 0: return load;
                case 1: return load / 2;
                case 2: return load / 4;
                default: return 0;
            }
        }

        /** Lays this LOAD on a place and no other anywhere. */
        void loadAlone(int place, int load) {
            unload();
            press(place, load);
        }

        private int whoSpans(int place) {
            int end = 0;
            for (int k = 0; k < size; k++) {
                end += flock.lengthOf(order[k]);
                if (place < end) {
                    return k;
                }
            }
            return NONE;
        }

        /** Ends a minute: false, if it BREAKS (nobody is tired then); else all are tired. */
        boolean settle() {
            for (int k = 0; k < size; k++) {
                if (borne[k] > powerAt(k)) {
                    return false;
                }
            }
            tire();
            return true;
        }

        void tire() {
            for (int k = 0; k < size; k++) {
                int bird = order[k];
                if (bird >= 0 && bird < MOST_BIRDS) {
                    tired[bird] += tiredBy(flock.kindOf(bird), borne[k]);
                }
            }
        }

        /** By what a minute tires one that bears so much. */
        static int tiredBy(int kind, int bears) {
            return kind == FLEDGLING ? bears / 8 * 2 : bears / 8;
        }

        /** She goes from place first on, being there in that minute: where it BREAKS, or end. */
        int walk(int first, int end, int minute, int weight) {
            for (int place = first; place < end; place++) {
                loadAlone(place, weight + flock.windIn(minute + place - first));
                if (!settle()) {
                    return place;
                }
            }
            return end;
        }
    }

    /** All that changes in a night, and is KEPT and UNDONE. */
    private static final class Night {
        private final Flock flock;
        private final Bridge bridge;
        private int minute = 0;
        private int year = 0;
        private int place = LEFT_BANK;
        private boolean broken = false;

        Night(Flock flock) {
            this.flock = flock;
            this.bridge = new Bridge(flock);
        }

        void begin() {
            bridge.clear();
            minute = 0;
            year = 0;
            place = LEFT_BANK;
            broken = false;
        }

        void copyFrom(Night other) {
            bridge.copyFrom(other.bridge);
            minute = other.minute;
            year = other.year;
            place = other.place;
            broken = other.broken;
        }

        Bridge bridge() {
            return bridge;
        }

        int minute() {
            return minute;
        }

        int yearNow() {
            return year;
        }

        void setYear(int n) {
            year = n;
        }

        int place() {
            return place;
        }

        boolean isBroken() {
            return broken;
        }

        int weight() {
            return flock.weightIn(year);
        }

        boolean isOnBridge() {
            return place >= 0 && place < flock.width();
        }

        /** Whether nobody may JOIN or LEAVE, and no YEAR change. */
        boolean isFixed() {
            return broken || isOnBridge();
        }

        /** A minute in which she is at that place or bank: false, if THE BRIDGE BREAKS. */
        boolean passMinuteAt(int where) {
            place = where;
            if (isOnBridge()) {
                bridge.loadAlone(place, weight() + flock.windIn(minute));
                broken = !bridge.settle();
            }
            minute++;
            return !broken;
        }
    }

    /** Nights laid upon one another; where there is no room the oldest is given up for a new one. */
    private static final class Shelf {
        private final Night[] nights;
        private int size = 0;

        Shelf(Flock flock, int room) {
            nights = new Night[Math.max(1, room)];
            for (int i = 0; i < nights.length; i++) {
                nights[i] = new Night(flock);
            }
        }

        int size() {
            return size;
        }

        boolean isFull() {
            return size >= nights.length;
        }

        void clear() {
            size = 0;
        }

        void put(Night night) {
            if (isFull()) {
                giveUpOldest();
            }
            nights[size].copyFrom(night);
            size++;
        }

        /** The oldest one's object goes to the top, to be used again. */
        private void giveUpOldest() {
            Night oldest = nights[0];
            for (int i = 1; i < nights.length; i++) {
                nights[i - 1] = nights[i];
            }
            nights[nights.length - 1] = oldest;
            size--;
        }

        boolean takeInto(Night night) {
            if (size <= 0) {
                return false;
            }
            size--;
            night.copyFrom(nights[size]);
            return true;
        }
    }

    /** Looks through all BRIDGES for the one of FEWEST BIRDS. */
    private static final class Search {
        private static final int NOTHING_YET = MOST_BIRDS + 1;
        private static final int NO_WEIGHT = -1;

        private final Flock flock;
        private final Bridge tried;
        private final int[] found = new int[MOST_BIRDS];
        // by the BIRDS that stand already (bits): with fewer more than this it is never WHOLE and holds
        private final int[] leastMore = new int[1 << MOST_BIRDS];
        private int foundSize = NOTHING_YET;
        // the answer hangs on what is LAID and this alone, so it is looked for once
        private int foundWeight = NO_WEIGHT;

        Search(Flock flock) {
            this.flock = flock;
            this.tried = new Bridge(flock);
        }

        void begin() {
            foundWeight = NO_WEIGHT;
        }

        void find(int weight) {
            if (weight == foundWeight) {
                return;
            }
            foundWeight = weight;
            foundSize = NOTHING_YET;
            tried.clear();
            findLeastMore(weight);
            extend(0, 0, weight);
        }

        int foundSize() {
            return foundSize == NOTHING_YET ? NONE : foundSize;
        }

        int foundAt(int k) {
            return foundSize == NOTHING_YET || k < 0 || k >= foundSize ? NONE : found[k];
        }

        private void findLeastMore(int weight) {
            for (int standing = leastMore.length - 1; standing >= 0; standing--) {
                int first = placesOf(standing);
                leastMore[standing] = first >= flock.width() ? 0 : leastMoreBehind(standing, first, weight);
            }
        }

        private int placesOf(int standing) {
            int places = 0;
            for (int b = 0; b < flock.birds(); b++) {
                places += (standing >> b & 1) * flock.lengthOf(b);
            }
            return places;
        }

        private int leastMoreBehind(int standing, int first, int weight) {
            int least = NOTHING_YET;
            for (int b = 0; b < flock.birds(); b++) {
                int longer = standing | 1 << b;
                if (longer != standing && longer < leastMore.length && couldBear(b, first, weight)) {
                    least = Math.min(least, leastMore[longer] + 1);
                }
            }
            return least;
        }

        /** False, if a BIRD with this first place does not hold, whoever else is in the bridge. */
        private boolean couldBear(int b, int first, int weight) {
            int kind = flock.kindOf(b);
            int end = first + flock.lengthOf(b);
            boolean amid = first > 0 && end < flock.width();
            int left = flock.strengthOf(b);
            for (int place = Math.max(0, first - 2); place < end + 2 && place < flock.width(); place++) {
                // one that spans a place so far off is as many BIRDS apart at most
                int apart = place < first ? first - place : Math.max(0, place - end + 1);
                int bears = Bridge.partOf(weight + flock.windIn(place), apart);
                if (bears > Bridge.powerOf(kind, left, amid, true)) {
                    return false;
                }
                left -= Bridge.tiredBy(kind, bears);
            }
            return true;
        }

        /** Tries all that may JOIN, the lowest first, while that could give fewer than were found. */
        private void extend(int depth, int standing, int weight) {
            for (int b = 0; b < flock.birds() && depth < MOST_BIRDS; b++) {
                int longer = standing | 1 << b;
                if (longer >= leastMore.length || depth + 1 + leastMore[longer] >= foundSize || !tried.mayJoin(b)) {
                    continue;
                }
                tried.append(b);
                tried.rest();
                int end = tried.placesSpanned();
                boolean holds = tried.walk(0, end, 0, weight) == end;
                if (tried.isWhole()) {
                    if (holds) {
                        noteFound();
                    }
                } else if (holds || flock.kindOf(b) == PAIRED) {
                    // what breaks now breaks with more behind it too, but for a PAIRED
                    // last one, which may yet get another beside it
                    extend(depth + 1, longer, weight);
                }
                tried.dropLast();
            }
        }

        private void noteFound() {
            foundSize = tried.size();
            for (int k = 0; k < foundSize && k < found.length; k++) {
                found[k] = tried.birdAt(k);
            }
        }
    }
}
