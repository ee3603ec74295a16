/**
 * The statues of a town, dressed by one tailor through the seasons.
 * What each call answers is promised in the project's document; this file keeps to its LANGUAGE rules.
 */
public final class StatueCoats {
    public static final int NONE = -1, BAD = -2, NOT = -3, FULL = -4;

    private static final int LEAST_INT = -2147483648;
    private static final long LEAST_LONG = -9223372036854775808L;
    private static final int NULL = 1, INDEX = 2, CAST = 3, STORE = 4, SIZE = 5;
    private static final int NOTHING = 0, RAIN = 1, FROST = 2, SUN = 3, MOTHS = 4;
    private static final int WOOL = 0, LINEN = 1, HALF = 2;
    private static final int THINGS = 8;
    private static final int MONTHS = 24;
    private static final int MOST_SLACK = 40;
    private static final int LADDER_STOPS = 6;
    private static final int LATEST_TIME = 99;
    private static final int SEW_FROM = 10, SEW_TO = 400;
    private static final int MOTH_MONTHS = 12, SIXTEENTHS = 16;
    private static final int WEATHER_MONTHS = 40;
    private static final int FORMS = 3, SHORTS = 1, BYTES = 0;
    private static final int ITEMS = 60;

    private final Statues statues = new Statues();
    private final Clothes clothes = new Clothes();
    private final Seasons seasons = new Seasons();
    private final Text[] texts = {statues, clothes, seasons};
    private final Wardrobe wardrobe = new Wardrobe(statues, clothes, seasons);
    private final Dressing dressing = new Dressing(wardrobe, clothes);
    private final Ladder ladder = new Ladder(statues);
    private final Night night = new Night(wardrobe, statues, seasons);
    private final Chances chances = new Chances(clothes, seasons);
    private final Sheet[] sheets = {new Sheet(), new Sheet(), new Sheet(), new Sheet()};
    private int latestFinding;

    public StatueCoats() {
    }

    // ---- statues, clothes, seasons

    public int type(int text, int b) {
        Text told = textAt(text);
        if (told == null || b < 0 || b > 255) {
            return BAD;
        }
        if (told.isFull()) {
            return FULL;
        }
        told.append(b);
        wardrobe.outdate();
        return told.length;
    }

    public int wipe(int text) {
        Text told = textAt(text);
        if (told == null) {
            return BAD;
        }
        int had = told.length;
        told.cutTo(0);
        wardrobe.outdate();
        return had;
    }

    public int undo(int text) {
        Text told = textAt(text);
        if (told == null) {
            return BAD;
        }
        if (told.length == 0) {
            return NOT;
        }
        told.cutTo(told.length - 1);
        wardrobe.outdate();
        return told.length;
    }

    public int fault(int text) {
        Text told = textAt(text);
        return told == null ? BAD : told.firstFault;
    }

    public int statue(int statue, int what) {
        if (!statues.holds(statue)) {
            return BAD;
        }
        switch (what) {
            case 0: return statues.sizeOf(statue);
            case 1: return statues.placeOf(statue);
            case 2: return statues.buttonsOf(statue);
            case 3: return statues.isNorthern(statue) ? 1 : 0;
            default: return BAD;
        }
    }

    public int cloth(int cloth, int what) {
        if (!clothes.holds(cloth)) {
            return BAD;
        }
        switch (what) {
            case 0: return clothes.largeOf(cloth);
            case 1: return clothes.stuffOf(cloth);
            case 2: return clothes.buttonsOf(cloth);
            case 3: return clothes.amountOf(cloth);
            default: return BAD;
        }
    }

    public int season(int month) {
        if (month < 0 || month >= MONTHS) {
            return BAD;
        }
        return seasons.holds(month) ? seasons.broughtBy(month) : NONE;
    }

    public int set(int what, int v) {
        if (what == 0 && v >= 0 && v <= MOST_SLACK) {
            return wardrobe.changeSlack(v);
        }
        if (what == 1 && v >= 0 && v <= 1) {
            return wardrobe.changeWay(v);
        }
        return BAD;
    }

    // ---- behind months

    public int is(int months, int cloth, int what) {
        if (!isBehind(months) || !clothes.holds(cloth)) {
            return BAD;
        }
        wardrobe.update();
        switch (what) {
            case 0: return wardrobe.largeAt(months, cloth);
            case 1: return wardrobe.buttonsAt(months, cloth);
            case 2: return wardrobe.amountAt(months, cloth);
            default: return BAD;
        }
    }

    public int fits(int months, int cloth) {
        if (!isBehind(months) || !clothes.holds(cloth)) {
            return BAD;
        }
        wardrobe.update();
        return wardrobe.suitedBits(months, cloth);
    }

    public int wears(int months, int statue) {
        if (!isBehind(months) || !statues.holds(statue)) {
            return BAD;
        }
        wardrobe.update();
        return wardrobe.wornBy(months, statue);
    }

    public int behind(int months, int what) {
        if (!isBehind(months) || what < 0 || what > 1) {
            return BAD;
        }
        wardrobe.update();
        return what == 0 ? wardrobe.bareBits(months) : wardrobe.goneBits(months);
    }

    public int freezes(int what) {
        if (what < 0 || what > 1) {
            return BAD;
        }
        wardrobe.update();
        int month = wardrobe.firstFreeze();
        return what == 0 || month == NONE ? month : leastOf(wardrobe.frozenBits(month));
    }

    public int changes(int statue) {
        if (!statues.holds(statue)) {
            return BAD;
        }
        wardrobe.update();
        return wardrobe.changesOf(statue);
    }

    // ---- plans

    public int most(int months, int i) {
        if (!isBehind(months) || i < NONE || i >= THINGS) {
            return BAD;
        }
        wardrobe.update();
        dressing.plan(months);
        return i == NONE ? dressing.dressed() : dressing.chosenFor(i);
    }

    public int round(int statue, int time, int i) {
        boolean isStop = statue < LADDER_STOPS && statues.holds(statue);
        if (!isStop || time < 0 || time > LATEST_TIME || i < NONE || i >= LADDER_STOPS) {
            return BAD;
        }
        int together = ladder.plan(statue, time);
        return i == NONE || together == NONE ? together : ladder.stopAt(i);
    }

    public int sew(int months, int large) {
        if (!isBehind(months) || large < SEW_FROM || large > SEW_TO) {
            return BAD;
        }
        wardrobe.update();
        return wardrobe.leastClothFor(months, large);
    }

    // ---- seen, moths, weather

    public int seen(int months, int statue, int cloth) {
        if (!night.mayBe(months, statue, cloth)) {
            return BAD;
        }
        if (night.isFull()) {
            return FULL;
        }
        night.note(months, statue, cloth);
        return night.sightings;
    }

    public int forget() {
        int had = night.sightings;
        night.sightings = 0;
        return had;
    }

    public int read(int s) {
        Sheet sheet = sheetAt(s);
        if (sheet == null) {
            return BAD;
        }
        if (sheet.isLost()) {
            return found(NULL);
        }
        int taken = 0;
        for (int at = 0; at + 2 < sheet.size && !night.isFull(); at += 3) {
            int months = sheet.itemAt(at), statue = sheet.itemAt(at + 1), cloth = sheet.itemAt(at + 2);
            if (!night.mayBe(months, statue, cloth)) {
                break;
            }
            night.note(months, statue, cloth);
            taken++;
        }
        return taken;
    }

    public int swapped(int what) {
        if (what < 0 || what > 1) {
            return BAD;
        }
        wardrobe.update();
        night.findPairs();
        return what == 0 ? night.pairsFound : night.leastPair();
    }

    public int look(int statue) {
        if (!statues.holds(statue)) {
            return BAD;
        }
        wardrobe.update();
        night.findPairs();
        return night.monthsToLook(statue);
    }

    public long moths(int c, int cloth, int months, int what) {
        boolean isTime = isBehind(months) && months <= MOTH_MONTHS;
        if (c < 0 || c > SIXTEENTHS || !clothes.holds(cloth) || !isTime || what < 0 || what > 1) {
            return LEAST_LONG - BAD;
        }
        chances.weigh(c, cloth, months);
        return what == 0 ? chances.above : chances.below;
    }

    public int weather(int seed, int n, int cloth) {
        if (n < 1 || n > WEATHER_MONTHS || (cloth != NONE && !clothes.holds(cloth))) {
            return BAD;
        }
        wardrobe.drawWeather(seed, n);
        return cloth == NONE ? wardrobe.dressedInWeather() : wardrobe.largeInWeather(cloth);
    }

    // ---- sheets

    public int sheet(int s, int form, int n) {
        Sheet sheet = sheetAt(s);
        if (sheet == null || !isForm(form) || n > ITEMS) {
            return BAD;
        }
        if (n < 0) {
            return found(SIZE);
        }
        sheet.begin(form, n);
        return n;
    }

    public int lose(int s) {
        Sheet sheet = sheetAt(s);
        if (sheet == null) {
            return BAD;
        }
        if (sheet.isLost()) {
            return found(NULL);
        }
        int had = sheet.size;
        sheet.drop();
        return had;
    }

    public int lay(int s, int form, int i, int v) {
        Sheet sheet = sheetAt(s);
        if (sheet == null || !isForm(form)) {
            return BAD;
        }
        int number = itemFinding(sheet, form, i);
        if (number != 0) {
            return found(number);
        }
        sheet.put(i, v);
        return 1;
    }

    public int get(int s, int form, int i) {
        Sheet sheet = sheetAt(s);
        if (sheet == null || !isForm(form)) {
            return LEAST_INT;
        }
        int number = itemFinding(sheet, form, i);
        if (number != 0) {
            latestFinding = number;
            return LEAST_INT;
        }
        return sheet.itemAt(i);
    }

    public int copy(int s, int i, int t, int j, int n) {
        Sheet from = sheetAt(s), to = sheetAt(t);
        if (from == null || to == null) {
            return BAD;
        }
        if (from.isLost() || to.isLost()) {
            return found(NULL);
        }
        if (from.form != to.form) {
            return found(STORE);
        }
        if (!from.hasRun(i, n) || !to.hasRun(j, n)) {
            return found(INDEX);
        }
        System.arraycopy(from.items, i, to.items, j, n);
        return 1;
    }

    public int write(int months, int s) {
        Sheet sheet = sheetAt(s);
        if (!isBehind(months) || sheet == null) {
            return BAD;
        }
        if (sheet.isLost()) {
            return found(NULL);
        }
        wardrobe.update();
        int many = Math.min(sheet.size, statues.things);
        for (int i = 0; i < many; i++) {
            sheet.put(i, wardrobe.wornBy(months, i));
        }
        return many;
    }

    public int count(int what) {
        switch (what) {
            case 0: return statues.things;
            case 1: return clothes.things;
            case 2: return seasons.things;
            case 3: return statues.length;
            case 4: return clothes.length;
            case 5: return seasons.length;
            case 6: return wardrobe.slack;
            case 7: return night.sightings;
            case 8: return latestFinding;
            default: return BAD;
        }
    }

    public long digest() {
        long h = 17;
        for (int what = 0; what <= 7; what++) {
            h = 31 * h + count(what);
        }
        for (int text = 0; text < texts.length; text++) {
            h = 31 * h + fault(text);
        }
        h = withStatues(h);
        h = withClothes(h);
        h = withAllBehind(h, 0);
        h = withAllBehind(h, seasons.things);
        h = 31 * h + freezes(0);
        h = 31 * h + freezes(1);
        h = 31 * h + round(0, 20, NONE);
        h = 31 * h + round(0, 20, 0);
        h = 31 * h + swapped(0);
        h = 31 * h + swapped(1);
        return 31 * h + weather(7, 9, NONE);
    }

    private long withStatues(long before) {
        long h = before;
        for (int s = 0; s < statues.things; s++) {
            for (int what = 0; what <= 3; what++) {
                h = 31 * h + statue(s, what);
            }
            h = 31 * h + changes(s);
            h = 31 * h + look(s);
        }
        return h;
    }

    private long withClothes(long before) {
        long h = before;
        for (int c = 0; c < clothes.things; c++) {
            for (int what = 0; what <= 3; what++) {
                h = 31 * h + cloth(c, what);
            }
            h = 31 * h + moths(5, c, seasons.things, 0);
            h = 31 * h + moths(5, c, seasons.things, 1);
            h = 31 * h + weather(7, 9, c);
        }
        return h;
    }

    private long withAllBehind(long before, int months) {
        long h = before;
        for (int s = 0; s < statues.things; s++) {
            h = 31 * h + wears(months, s);
        }
        for (int c = 0; c < clothes.things; c++) {
            for (int what = 0; what <= 2; what++) {
                h = 31 * h + is(months, c, what);
            }
            h = 31 * h + fits(months, c);
        }
        h = 31 * h + behind(months, 0);
        h = 31 * h + behind(months, 1);
        h = 31 * h + most(months, NONE);
        h = 31 * h + most(months, 0);
        return 31 * h + sew(months, 60);
    }

    private Text textAt(int text) {
        return text >= 0 && text < texts.length ? texts[text] : null;
    }

    private Sheet sheetAt(int s) {
        return s >= 0 && s < sheets.length ? sheets[s] : null;
    }

    private boolean isBehind(int months) {
        return months >= 0 && months <= seasons.things;
    }

    private static boolean isForm(int form) {
        return form >= 0 && form < FORMS;
    }

    private static int leastOf(int bits) {
        for (int s = 0; s < THINGS; s++) {
            if ((bits >> s & 1) != 0) {
                return s;
            }
        }
        return NONE;
    }

    private int found(int number) {
        latestFinding = number;
        return -10 - number;
    }

    private static int itemFinding(Sheet sheet, int form, int i) {
        if (sheet.isLost()) {
            return NULL;
        }
        if (sheet.form != form) {
            return CAST;
        }
        return sheet.has(i) ? 0 : INDEX;
    }

    /** Bytes as they were typed. What they tell is found anew at each change, so that nobody can read it stale. */
    private abstract static class Text {
        private static final int LONGEST = 47;

        final int[] bytes = new int[LONGEST];
        final int limit;
        int length;
        int firstFault = NONE;
        int things;

        Text(int limit) {
            this.limit = limit;
        }

        abstract boolean goesOnAt(int at);

        /** How many things are told, or NONE when the last of them is not ended. */
        abstract int wholeThings();

        final boolean isFull() {
            return length >= limit || length >= bytes.length;
        }

        final boolean holds(int thing) {
            return thing >= 0 && thing < things;
        }

        final void append(int b) {
            if (length < bytes.length) {
                bytes[length] = b;
                length++;
            }
            judge();
        }

        final void cutTo(int left) {
            length = Math.max(0, Math.min(left, length));
            judge();
        }

        final int byteAt(int at) {
            return at >= 0 && at < length && at < bytes.length ? bytes[at] : NONE;
        }

        /** Looks at the place itself rather than through byteAt: the rules bound how deep calls go. */
        final int figureAt(int at) {
            return at >= 0 && at < length && at < bytes.length ? bytes[at] - '0' : 0;
        }

        private void judge() {
            firstFault = NONE;
            for (int at = 0; at < length && firstFault == NONE; at++) {
                if (!goesOnAt(at)) {
                    firstFault = at;
                }
            }
            int whole = wholeThings();
            if (firstFault == NONE && whole == NONE) {
                firstFault = length;
            }
            things = firstFault == NONE ? whole : 0;
        }

        static boolean isFigure(int b, int least) {
            return b >= '0' + least && b <= '9';
        }
    }

    private static final class Statues extends Text {
        private static final int WIDTH = 5;

        Statues() {
            super(39);
        }

        boolean goesOnAt(int at) {
            int b = byteAt(at);
            if (at / WIDTH >= THINGS) {
                return false;
            }
            switch (at % WIDTH) {
                case 0: return isFigure(b, 1);
                case 1:
                case 2: return isFigure(b, 0);
                case 3: return b == 'n' || b == 's';
                default: return b == ';';
            }
        }

        int wholeThings() {
            boolean isEnded = length == 0 || (length + 1) % WIDTH == 0;
            return isEnded ? (length + 1) / WIDTH : NONE;
        }

        int sizeOf(int statue) {
            return figureAt(statue * WIDTH);
        }

        int placeOf(int statue) {
            return figureAt(statue * WIDTH + 1);
        }

        int buttonsOf(int statue) {
            return figureAt(statue * WIDTH + 2);
        }

        boolean isNorthern(int statue) {
            return byteAt(statue * WIDTH + 3) == 'n';
        }
    }

    private static final class Clothes extends Text {
        private static final int WIDTH = 6;

        Clothes() {
            super(47);
        }

        boolean goesOnAt(int at) {
            int b = byteAt(at);
            if (at / WIDTH >= THINGS) {
                return false;
            }
            switch (at % WIDTH) {
                case 0:
                case 3: return isFigure(b, 0);
                case 1: return isFigure(b, 0) && byteAt(at - 1) != '0';
                case 2: return b == 'w' || b == 'l' || b == 'h';
                case 4: return isFigure(b, 1);
                default: return b == ';';
            }
        }

        int wholeThings() {
            boolean isEnded = length == 0 || (length + 1) % WIDTH == 0;
            return isEnded ? (length + 1) / WIDTH : NONE;
        }

        int largeOf(int cloth) {
            return 10 * figureAt(cloth * WIDTH) + figureAt(cloth * WIDTH + 1);
        }

        int stuffOf(int cloth) {
            switch (byteAt(cloth * WIDTH + 2)) {
                case 'w': return WOOL;
                case 'l': return LINEN;
                default: return HALF;
            }
        }

        int buttonsOf(int cloth) {
            return figureAt(cloth * WIDTH + 3);
        }

        int amountOf(int cloth) {
            return figureAt(cloth * WIDTH + 4);
        }
    }

    private static final class Seasons extends Text {
        Seasons() {
            super(MONTHS);
        }

        boolean goesOnAt(int at) {
            return broughtBy(at) != NONE;
        }

        int wholeThings() {
            return length;
        }

        int broughtBy(int month) {
            switch (byteAt(month)) {
                case '.': return NOTHING;
                case 'r': return RAIN;
                case 'f': return FROST;
                case 's': return SUN;
                case 'm': return MOTHS;
                default: return NONE;
            }
        }
    }

    /**
     * All clothes behind each number of months, and who wears them then: a row for each, kept until a text
     * or the tailor changes, since a single call may ask for all of them many times. One row more is the weather's.
     */
    private static final class Wardrobe {
        private static final int WEATHER_ROW = MONTHS + 1, ROWS = MONTHS + 2;
        private static final int LARGEST_SIZE = 9;

        private final Statues statues;
        private final Clothes clothes;
        private final Seasons seasons;
        private final int[][] large = new int[ROWS][THINGS];
        private final int[][] buttons = new int[ROWS][THINGS];
        private final int[][] amount = new int[ROWS][THINGS];
        /** [row][statue]: the clothes that fit it, as bits. */
        private final int[][] suiting = new int[ROWS][THINGS];
        private final int[][] worn = new int[ROWS][THINGS];
        private int slack = 15;
        private int way;
        private boolean isOutdated = true;

        Wardrobe(Statues statues, Clothes clothes, Seasons seasons) {
            this.statues = statues;
            this.clothes = clothes;
            this.seasons = seasons;
        }

        void outdate() {
            isOutdated = true;
        }

        int changeSlack(int v) {
            int was = slack;
            slack = v;
            isOutdated = true;
            return was;
        }

        int changeWay(int v) {
            int was = way;
            way = v;
            isOutdated = true;
            return was;
        }

        void update() {
            if (!isOutdated) {
                return;
            }
            isOutdated = false;
            hang(0);
            measure(0);
            dress(0);
            for (int month = 0; month < seasons.things && month < MONTHS; month++) {
                age(month, month + 1, seasons.broughtBy(month));
                measure(month + 1);
                dress(month + 1);
            }
        }

        int largeAt(int row, int cloth) {
            return isIn(row, cloth) ? large[row][cloth] : 0;
        }

        int buttonsAt(int row, int cloth) {
            return isIn(row, cloth) ? buttons[row][cloth] : 0;
        }

        int amountAt(int row, int cloth) {
            return isIn(row, cloth) ? amount[row][cloth] : 0;
        }

        int wornBy(int row, int statue) {
            return row >= 0 && row < ROWS && statue >= 0 && statue < THINGS ? worn[row][statue] : NONE;
        }

        int suitingBits(int row, int statue) {
            return isIn(row, statue) && statues.holds(statue) ? suiting[row][statue] : 0;
        }

        int suitedBits(int row, int cloth) {
            int bits = 0;
            for (int s = 0; s < statues.things; s++) {
                if ((suitingBits(row, s) >> cloth & 1) != 0) {
                    bits |= 1 << s;
                }
            }
            return bits;
        }

        int bareBits(int row) {
            int bits = 0;
            for (int s = 0; s < statues.things; s++) {
                if (wornBy(row, s) == NONE) {
                    bits |= 1 << s;
                }
            }
            return bits;
        }

        int goneBits(int row) {
            int bits = 0;
            for (int c = 0; c < clothes.things; c++) {
                if (amountAt(row, c) == 0) {
                    bits |= 1 << c;
                }
            }
            return bits;
        }

        int frozenBits(int month) {
            if (seasons.broughtBy(month) != FROST) {
                return 0;
            }
            int bits = 0;
            for (int s = 0; s < statues.things; s++) {
                if (statues.isNorthern(s) && wornBy(month + 1, s) == NONE) {
                    bits |= 1 << s;
                }
            }
            return bits;
        }

        int firstFreeze() {
            for (int month = 0; month < seasons.things; month++) {
                if (frozenBits(month) != 0) {
                    return month;
                }
            }
            return NONE;
        }

        int changesOf(int statue) {
            int many = 0;
            for (int months = 1; months <= seasons.things; months++) {
                if (wornBy(months, statue) != wornBy(months - 1, statue)) {
                    many++;
                }
            }
            return many;
        }

        int leastClothFor(int row, int wanted) {
            int best = NONE, bestCloth = 0;
            int gone = goneBits(row);
            for (int bits = 1; bits < 1 << clothes.things; bits++) {
                if ((bits & gone) != 0 || largeTogether(row, bits) < wanted) {
                    continue;
                }
                int needed = clothTogether(row, bits);
                boolean isFewer = needed == bestCloth && Integer.bitCount(bits) < Integer.bitCount(best);
                if (best == NONE || needed < bestCloth || isFewer) {
                    best = bits;
                    bestCloth = needed;
                }
            }
            return best;
        }

        void drawWeather(int seed, int months) {
            hang(WEATHER_ROW);
            int lot = seed;
            for (int k = 0; k < months; k++) {
                lot = 1103515245 * lot + 12345;
                age(WEATHER_ROW, WEATHER_ROW, (lot >>> 16) % 5);
            }
        }

        int dressedInWeather() {
            measure(WEATHER_ROW);
            return dress(WEATHER_ROW);
        }

        int largeInWeather(int cloth) {
            return largeAt(WEATHER_ROW, cloth);
        }

        private static boolean isIn(int row, int thing) {
            return row >= 0 && row < ROWS && thing >= 0 && thing < THINGS;
        }

        private int largeTogether(int row, int bits) {
            int sum = 0;
            for (int c = 0; c < clothes.things; c++) {
                sum += (bits >> c & 1) * largeAt(row, c);
            }
            return sum;
        }

        private int clothTogether(int row, int bits) {
            int sum = 0;
            for (int c = 0; c < clothes.things; c++) {
                sum += (bits >> c & 1) * amountAt(row, c);
            }
            return sum;
        }

        private void hang(int row) {
            for (int c = 0; c < clothes.things; c++) {
                if (isIn(row, c)) {
                    large[row][c] = clothes.largeOf(c);
                    buttons[row][c] = clothes.buttonsOf(c);
                    amount[row][c] = clothes.amountOf(c);
                }
            }
        }

        private void age(int from, int to, int brought) {
            for (int c = 0; c < clothes.things; c++) {
                if (!isIn(from, c) || !isIn(to, c)) {
                    continue;
                }
                boolean isLeft = amount[from][c] > 0;
                int stuff = clothes.stuffOf(c);
                int shrunk = isLeft && brought == RAIN ? shrinkage(stuff, large[from][c]) : 0;
                int torn = isLeft && brought == SUN && stuff == LINEN ? 1 : 0;
                int eaten = brought == MOTHS ? eatenOf(stuff) : 0;
                large[to][c] = large[from][c] - shrunk;
                buttons[to][c] = Math.max(0, buttons[from][c] - torn);
                amount[to][c] = Math.max(0, amount[from][c] - eaten);
            }
        }

        private static int shrinkage(int stuff, int before) {
            switch (stuff) {
                case WOOL: return before / 10;
                case HALF: return before / 20;
                default: return 0;
            }
        }

        static int eatenOf(int stuff) {
            switch (stuff) {
                case WOOL: return 2;
                case HALF: return 1;
                default: return 0;
            }
        }

        private void measure(int row) {
            for (int s = 0; s < statues.things; s++) {
                if (!isIn(row, s)) {
                    continue;
                }
                int least = 10 * statues.sizeOf(s);
                int needed = statues.buttonsOf(s);
                int bits = 0;
                for (int c = 0; c < clothes.things && c < THINGS; c++) {
                    boolean isAsLarge = large[row][c] >= least && large[row][c] <= least + slack;
                    if (amount[row][c] > 0 && isAsLarge && buttons[row][c] >= needed) {
                        bits |= 1 << c;
                    }
                }
                suiting[row][s] = bits;
            }
        }

        /** Answers how many are dressed. */
        private int dress(int row) {
            int taken = 0;
            if (way == 0) {
                for (int s = 0; s < statues.things; s++) {
                    taken |= dressOne(row, s, taken);
                }
                return Integer.bitCount(taken);
            }
            for (int size = LARGEST_SIZE; size >= 1; size--) {
                for (int s = 0; s < statues.things; s++) {
                    if (statues.sizeOf(s) == size) {
                        taken |= dressOne(row, s, taken);
                    }
                }
            }
            return Integer.bitCount(taken);
        }

        private int dressOne(int row, int statue, int taken) {
            if (!isIn(row, statue)) {
                return 0;
            }
            int best = NONE, bestLarge = 0;
            int free = suiting[row][statue] & ~taken;
            for (int c = 0; c < THINGS; c++) {
                if ((free >> c & 1) != 0 && (best == NONE || large[row][c] < bestLarge)) {
                    best = c;
                    bestLarge = large[row][c];
                }
            }
            worn[row][statue] = best;
            return best == NONE ? 0 : 1 << best;
        }
    }

    /** The most that can be dressed: over sets of clothes, as a search over rows would grow too long. */
    private static final class Dressing {
        private static final int SETS = 1 << THINGS;

        private final Wardrobe wardrobe;
        private final Clothes clothes;
        /** [i][set]: how many of the statues from i on can be dressed when the set is taken. */
        private final int[][] dressable = new int[THINGS + 1][SETS];
        private final int[] chosen = new int[THINGS];

        Dressing(Wardrobe wardrobe, Clothes clothes) {
            this.wardrobe = wardrobe;
            this.clothes = clothes;
        }

        int dressed() {
            return dressable[0][0];
        }

        int chosenFor(int statue) {
            return statue >= 0 && statue < THINGS ? chosen[statue] : NONE;
        }

        void plan(int row) {
            for (int s = THINGS - 1; s >= 0; s--) {
                fillFor(s, wardrobe.suitingBits(row, s));
            }
            int taken = 0;
            for (int s = 0; s < THINGS; s++) {
                chosen[s] = leastChoice(s, wardrobe.suitingBits(row, s), taken);
                taken |= chosen[s] == NONE ? 0 : 1 << chosen[s];
            }
        }

        private void fillFor(int statue, int suiting) {
            if (statue < 0 || statue >= THINGS) {
                return;
            }
            int[] here = dressable[statue], next = dressable[statue + 1];
            for (int taken = 0; taken < 1 << clothes.things && taken < SETS; taken++) {
                int best = next[taken];
                int free = suiting & ~taken;
                for (int c = 0; c < THINGS && free >> c != 0; c++) {
                    if ((free >> c & 1) != 0) {
                        best = Math.max(best, 1 + next[(taken | 1 << c) & SETS - 1]);
                    }
                }
                here[taken] = best;
            }
        }

        private int leastChoice(int statue, int suiting, int taken) {
            if (statue < 0 || statue >= THINGS || taken < 0 || taken >= SETS) {
                return NONE;
            }
            int due = dressable[statue][taken];
            int free = suiting & ~taken;
            for (int c = 0; c < THINGS; c++) {
                if ((free >> c & 1) != 0 && 1 + dressable[statue + 1][(taken | 1 << c) & SETS - 1] == due) {
                    return c;
                }
            }
            return NONE;
        }
    }

    /** Rows are tried from the least on and only a better one is kept, so of like ones the least stays. */
    private static final class Ladder {
        private final Statues statues;
        private final int[] row = new int[LADDER_STOPS];
        private final int[] best = new int[LADDER_STOPS];
        private int stops;
        private int told;
        private int deadline;
        private int least;

        Ladder(Statues statues) {
            this.statues = statues;
        }

        int plan(int statue, int time) {
            stops = Math.min(LADDER_STOPS, statues.things);
            told = statue;
            deadline = time;
            least = NONE;
            climb(0, 0, 0, 0, 0);
            return least;
        }

        int stopAt(int i) {
            return i >= 0 && i < stops && i < LADDER_STOPS ? best[i] : NONE;
        }

        private void climb(int depth, int done, int place, int time, int sum) {
            if (least != NONE && sum >= least) {
                return;
            }
            if (depth < 0 || depth >= stops || depth >= LADDER_STOPS) {
                least = sum;
                System.arraycopy(row, 0, best, 0, LADDER_STOPS);
                return;
            }
            for (int s = 0; s < stops; s++) {
                int there = statues.placeOf(s);
                int dressed = time + Math.abs(there - place) + 1;
                if ((done >> s & 1) == 0 && (s != told || dressed <= deadline)) {
                    row[depth] = s;
                    climb(depth + 1, done | 1 << s, there, dressed, sum + dressed);
                }
            }
        }
    }

    /** What was seen, and the pairs that may have changed by night. */
    private static final class Night {
        private static final int SIGHTINGS = 8;
        private static final int PAIRS = 28;

        private final Wardrobe wardrobe;
        private final Statues statues;
        private final Seasons seasons;
        private final int[] monthsSeen = new int[SIGHTINGS];
        private final int[] statueSeen = new int[SIGHTINGS];
        private final int[] clothSeen = new int[SIGHTINGS];
        private final int[] pairs = new int[PAIRS];
        private final int[] alike = new int[THINGS + 1];
        private int sightings;
        private int pairsFound;

        Night(Wardrobe wardrobe, Statues statues, Seasons seasons) {
            this.wardrobe = wardrobe;
            this.statues = statues;
            this.seasons = seasons;
        }

        boolean mayBe(int months, int statue, int cloth) {
            boolean isTime = months >= 0 && months <= MONTHS;
            return isTime && statue >= 0 && statue < THINGS && cloth >= NONE && cloth < THINGS;
        }

        boolean isFull() {
            return sightings >= SIGHTINGS;
        }

        void note(int months, int statue, int cloth) {
            if (sightings < 0 || sightings >= SIGHTINGS) {
                return;
            }
            monthsSeen[sightings] = months;
            statueSeen[sightings] = statue;
            clothSeen[sightings] = cloth;
            sightings++;
        }

        void findPairs() {
            pairsFound = 0;
            for (int a = 0; a < statues.things; a++) {
                for (int b = a + 1; b < statues.things; b++) {
                    if (pairsFound < PAIRS && agrees(a, b)) {
                        pairs[pairsFound] = 8 * a + b;
                        pairsFound++;
                    }
                }
            }
        }

        int leastPair() {
            return pairsFound > 0 ? pairs[0] : NONE;
        }

        int monthsToLook(int statue) {
            int best = 0;
            int bestAlike = mostAlike(0, statue);
            for (int months = 1; months <= seasons.things; months++) {
                int now = mostAlike(months, statue);
                if (now < bestAlike) {
                    best = months;
                    bestAlike = now;
                }
            }
            return best;
        }

        private boolean agrees(int a, int b) {
            for (int k = 0; k < sightings && k < SIGHTINGS; k++) {
                boolean isThere = monthsSeen[k] <= seasons.things && statues.holds(statueSeen[k]);
                if (!isThere || wornHadChanged(a, b, monthsSeen[k], statueSeen[k]) != clothSeen[k]) {
                    return false;
                }
            }
            return true;
        }

        private int wornHadChanged(int a, int b, int months, int statue) {
            int from = statue == a ? b : statue == b ? a : statue;
            return wardrobe.wornBy(months, from);
        }

        private int mostAlike(int months, int statue) {
            for (int k = 0; k < alike.length; k++) {
                alike[k] = 0;
            }
            int greatest = 0;
            for (int k = 0; k < pairsFound && k < PAIRS; k++) {
                int at = wornHadChanged(pairs[k] / 8, pairs[k] % 8, months, statue) + 1;
                if (at >= 0 && at < alike.length) {
                    alike[at]++;
                    greatest = Math.max(greatest, alike[at]);
                }
            }
            return greatest;
        }
    }

    /** Whole numbers of sixteenth powers: twelve months stay below 2 to the 48th, so a long is exact. */
    private static final class Chances {
        private static final int MOST_CLOTH = 9;

        private final Clothes clothes;
        private final Seasons seasons;
        /** [a]: in how many of all cases so much is left. */
        private final long[] left = new long[MOST_CLOTH + 1];
        private long above;
        private long below;

        Chances(Clothes clothes, Seasons seasons) {
            this.clothes = clothes;
            this.seasons = seasons;
        }

        void weigh(int c, int cloth, int months) {
            begin(clothes.amountOf(cloth));
            int eaten = Wardrobe.eatenOf(clothes.stuffOf(cloth));
            for (int month = 0; month < months; month++) {
                if (seasons.broughtBy(month) == MOTHS && eaten > 0) {
                    passMoths(c, eaten);
                }
            }
            for (int a = 1; a <= MOST_CLOTH; a++) {
                above += left[a];
            }
            toLowestTerms();
        }

        private void begin(int amount) {
            for (int a = 0; a <= MOST_CLOTH; a++) {
                left[a] = a == amount ? 1 : 0;
            }
            above = 0;
            below = 1;
        }

        /** Goes up from the least, so that what is eaten falls where this month has already been. */
        private void passMoths(int c, int eaten) {
            left[0] *= SIXTEENTHS;
            for (int a = 1; a <= MOST_CLOTH; a++) {
                int then = Math.max(0, a - eaten);
                long cases = left[a];
                left[a] = cases * (SIXTEENTHS - c);
                left[then] += cases * c;
            }
            below *= SIXTEENTHS;
        }

        /** Below is a power of two, so halving is all that can be done. */
        private void toLowestTerms() {
            for (int k = 0; k < 63 && below > 1 && above % 2 == 0; k++) {
                above /= 2;
                below /= 2;
            }
        }
    }

    /** One row, made once and begun anew, as a new one for each call would fill the room. */
    private static final class Sheet {
        private static final int LOST = -1;

        private final int[] items = new int[ITEMS];
        private int form = LOST;
        private int size;

        boolean isLost() {
            return form == LOST;
        }

        void begin(int newForm, int n) {
            form = newForm;
            size = Math.max(0, Math.min(n, ITEMS));
            for (int i = 0; i < ITEMS; i++) {
                items[i] = 0;
            }
        }

        void drop() {
            form = LOST;
            size = 0;
        }

        boolean has(int i) {
            return i >= 0 && i < size && i < ITEMS;
        }

        boolean hasRun(int from, int n) {
            return from >= 0 && n >= 0 && n <= size - from;
        }

        void put(int i, int v) {
            if (has(i)) {
                items[i] = form == BYTES ? (byte) v : form == SHORTS ? (short) v : v;
            }
        }

        int itemAt(int i) {
            return has(i) ? items[i] : 0;
        }
    }
}
