import java.util.NoSuchElementException;

/**
 * The climate in the display cases of a museum, hour by hour, in whole units of moisture.
 * What each call promises stands in ../shared/DOC.md.
 */
public final class MuseumCases {
    public static final int NONE = -1;

    private static final int TEXT_BYTES = 900;
    private static final int BYTES_PER_APPEND = 20;
    private static final int SEASONS = 12;
    private static final int VISITOR_STATEMENTS = 6;
    private static final int KINDS = 4;
    private static final int POINTS = 6;
    private static final int CASES = 6;
    private static final int CASSETTES = 5;
    private static final int NAME_LETTERS = 8;
    private static final int NUMBER_DIGITS = 4;
    private static final int SATURATED = 1000;
    private static final int GREATEST_MASS = 999;
    private static final int HOURS_PER_DAY = 24;
    private static final int DAYS_PER_YEAR = 365;
    private static final int SET_POINT_WITHOUT_SEASONS = 500;
    private static final int GREATEST_GROUP = 999;
    private static final int GREATEST_GROUPS = 5000;
    private static final int GREATEST_TIME = 99999;
    private static final int HOURS_AHEAD = 2000;
    private static final int HOURS_OF_TRIALS = 72;
    private static final int STEP_OF_TRIALS = 50;
    private static final int SLOTS = 2;

    private final Reader reader = new Reader();
    private Setup setup = new Setup();
    /** A text is read into the draft, so that an erroneous one leaves the setup alone. */
    private Setup draft = new Setup();
    private final State state = new State();
    private final State[] slots = new State[SLOTS];
    private final boolean[] isSaved = new boolean[SLOTS];

    /** The predictions work on copies that are made once, because no call may make new ones. */
    private final Room roomAhead = new Room();
    private final Vitrine trial = new Vitrine();
    private final int[] roomsAhead = new int[HOURS_OF_TRIALS];

    public MuseumCases() {
        for (int slot = 0; slot < slots.length; slot++) {
            slots[slot] = new State();
        }
    }

    // ---- the setup

    public int append(int a, int b, int c, int d, int e) throws IllegalStateException {
        if (reader.length > TEXT_BYTES - BYTES_PER_APPEND) {
            throw new IllegalStateException("the text would exceed 900 bytes");
        }
        reader.appendBytes(a);
        reader.appendBytes(b);
        reader.appendBytes(c);
        reader.appendBytes(d);
        reader.appendBytes(e);
        return reader.length;
    }

    public int truncate(int length) throws IndexOutOfBoundsException {
        if (length < 0 || length > reader.length) {
            throw new IndexOutOfBoundsException("the text is not so long");
        }
        reader.length = length;
        return length;
    }

    public int load() throws IllegalArgumentException {
        reader.readInto(draft);
        Setup read = draft;
        draft = setup;
        setup = read;
        state.begin(setup);
        for (int slot = 0; slot < isSaved.length; slot++) {
            isSaved[slot] = false;
        }
        return setup.caseCount;
    }

    public int errorCode() {
        return reader.code;
    }

    public int errorPosition() {
        return reader.codeAt;
    }

    // ---- the room

    public int report(int what) throws IllegalArgumentException {
        switch (what) {
            case 0: return state.room.time;
            case 1: return state.room.day();
            case 2: return state.room.hourOfDay();
            case 3: return setup.caseCount;
            case 4: return setup.kindCount;
            case 5: return state.cassettesInAll();
            case 6: return state.nextSerial;
            case 7: return state.room.excess;
            case 8: return state.room.humidity(setup);
            case 9: return state.room.groups;
            default: throw new IllegalArgumentException("what is 0 to 9");
        }
    }

    public int setPoint(int day) throws IllegalArgumentException {
        if (day < 0 || day >= DAYS_PER_YEAR) {
            throw new IllegalArgumentException("a day is 0 to 364");
        }
        return setup.setPointOf(day);
    }

    public int visitors(int hour) throws IllegalArgumentException {
        if (hour < 0 || hour >= HOURS_PER_DAY) {
            throw new IllegalArgumentException("an hour of the day is 0 to 23");
        }
        return setup.visitorsAt(hour);
    }

    public int content(int kind, int humidity) throws IndexOutOfBoundsException {
        return kindAt(kind).contentAt(humidity);
    }

    public int announce(int visitors) throws IllegalArgumentException, IllegalStateException {
        if (visitors < 1 || visitors > GREATEST_GROUP) {
            throw new IllegalArgumentException("a group has 1 to 999 visitors");
        }
        if (visitors > GREATEST_GROUPS - state.room.groups) {
            throw new IllegalStateException("all groups have at most 5000 visitors");
        }
        state.room.groups += visitors;
        return state.room.groups;
    }

    // ---- cases

    public int displayCase(int number, int what) throws IndexOutOfBoundsException, IllegalArgumentException {
        Vitrine vitrine = vitrineAt(number);
        Logbook logbook = logbookAt(number);
        switch (what) {
            case 0: return vitrine.volume;
            case 1: return vitrine.leak;
            case 2: return vitrine.air;
            case 3: return vitrine.humidity();
            case 4: return vitrine.count;
            case 5: return vitrine.moistureOfCassettes();
            case 6: return vitrine.low;
            case 7: return vitrine.high;
            case 8: return logbook.unsafeHours;
            case 9: return logbook.lowest;
            case 10: return logbook.greatest;
            default: throw new IllegalArgumentException("what is 0 to 10");
        }
    }

    public long balance(int number, int what) throws IndexOutOfBoundsException, IllegalArgumentException {
        Vitrine vitrine = vitrineAt(number);
        Logbook logbook = logbookAt(number);
        switch (what) {
            case 0: return logbook.atLoading;
            case 1: return logbook.leaked;
            case 2: return logbook.cameIn;
            case 3: return logbook.wentOut;
            case 4: return vitrine.moisture();
            default: throw new IllegalArgumentException("what is 0 to 4");
        }
    }

    public int recorded(int number, int hours)
            throws IndexOutOfBoundsException, IllegalArgumentException, NoSuchElementException {
        Logbook logbook = logbookAt(number);
        if (hours < 0 || hours >= HOURS_PER_DAY) {
            throw new IllegalArgumentException("hours are 0 to 23");
        }
        if (hours >= state.room.time) {
            throw new NoSuchElementException("not so many hours have passed");
        }
        return logbook.recordOf(state.room.time - 1 - hours);
    }

    public int swing(int number) throws IndexOutOfBoundsException, NoSuchElementException {
        Logbook logbook = logbookAt(number);
        requireAnHour();
        return logbook.swingAt(state.room.time);
    }

    public double mean(int number) throws IndexOutOfBoundsException, NoSuchElementException {
        Logbook logbook = logbookAt(number);
        requireAnHour();
        return (double) logbook.sumOfRecords / (double) state.room.time;
    }

    public double buffering(int number) throws IndexOutOfBoundsException, NoSuchElementException {
        Vitrine vitrine = vitrineAt(number);
        int moisture = vitrine.moisture();
        if (moisture == 0) {
            throw new NoSuchElementException("the case has no moisture");
        }
        return (float) vitrine.moistureOfCassettes() / (float) moisture;
    }

    public int setLeak(int number, int leak) throws IndexOutOfBoundsException, IllegalArgumentException {
        Vitrine vitrine = vitrineAt(number);
        if (leak < 0 || leak > 1000) {
            throw new IllegalArgumentException("a leak is 0 to 1000");
        }
        int previous = vitrine.leak;
        vitrine.leak = leak;
        return previous;
    }

    public void setSafe(int number, int low, int high) throws IndexOutOfBoundsException, IllegalArgumentException {
        Vitrine vitrine = vitrineAt(number);
        requireHumidity(low);
        requireHumidity(high);
        if (high < low) {
            throw new IllegalArgumentException("the greatest safe humidity is at least the lowest");
        }
        vitrine.low = low;
        vitrine.high = high;
    }

    public int open(int number) throws IndexOutOfBoundsException {
        Vitrine vitrine = vitrineAt(number);
        int before = vitrine.air;
        vitrine.fillAir(state.room.humidity(setup));
        int increase = vitrine.air - before;
        logbookAt(number).leaked += increase;
        return increase;
    }

    // ---- cassettes

    public int cassette(int number, int index, int what) throws IndexOutOfBoundsException, IllegalArgumentException {
        Vitrine vitrine = vitrineAt(number);
        if (index < 0 || index >= vitrine.count) {
            throw new IndexOutOfBoundsException("there is no such cassette");
        }
        Cassette cassette = vitrine.cassettes[index];
        switch (what) {
            case 0: return cassette.serial;
            case 1: return cassette.kindNumber();
            case 2: return cassette.mass;
            case 3: return cassette.moisture;
            case 4: return cassette.ownHumidity();
            default: throw new IllegalArgumentException("what is 0 to 4");
        }
    }

    public int caseOf(int serial) throws NoSuchElementException {
        int number = state.holderOf(serial);
        if (number == NONE) {
            throw new NoSuchElementException("no case has this cassette");
        }
        return number;
    }

    public int add(int number, int kind, int mass, int humidity)
            throws IndexOutOfBoundsException, IllegalArgumentException, IllegalStateException {
        Vitrine vitrine = vitrineAt(number);
        Kind sorbent = kindAt(kind);
        if (mass < 1 || mass > GREATEST_MASS) {
            throw new IllegalArgumentException("a mass is 1 to 999");
        }
        requireHumidity(humidity);
        if (vitrine.isFull()) {
            throw new IllegalStateException("the case has 5 cassettes");
        }
        int moisture = sorbent.moistureAt(humidity, mass);
        vitrine.put(state.nextSerial, sorbent, mass, moisture);
        logbookAt(number).cameIn += moisture;
        return state.takeSerial();
    }

    public int remove(int serial) throws NoSuchElementException {
        int number = caseOf(serial);
        Vitrine vitrine = vitrineAt(number);
        int index = vitrine.indexOf(serial);
        int moisture = vitrine.moistureOf(index);
        vitrine.takeOut(index);
        logbookAt(number).wentOut += moisture;
        return moisture;
    }

    public int move(int serial, int number)
            throws NoSuchElementException, IndexOutOfBoundsException, IllegalStateException {
        int from = caseOf(serial);
        Vitrine target = vitrineAt(number);
        if (from == number || target.isFull()) {
            throw new IllegalStateException("it is there already, or the case has 5 cassettes");
        }
        Vitrine source = vitrineAt(from);
        int index = source.indexOf(serial);
        int moisture = source.moistureOf(index);
        target.putCopyOf(source, index);
        source.takeOut(index);
        logbookAt(from).wentOut += moisture;
        logbookAt(number).cameIn += moisture;
        return from;
    }

    public int exchange(int serial, int humidity) throws NoSuchElementException, IllegalArgumentException {
        int number = caseOf(serial);
        requireHumidity(humidity);
        Vitrine vitrine = vitrineAt(number);
        Logbook logbook = logbookAt(number);
        int index = vitrine.indexOf(serial);
        logbook.wentOut += vitrine.moistureOf(index);
        vitrine.recondition(index, state.nextSerial, humidity);
        logbook.cameIn += vitrine.moistureOf(index);
        return state.takeSerial();
    }

    // ---- time

    public int advance(int hours) throws IllegalArgumentException, IllegalStateException {
        requireHours(hours, 1, HOURS_AHEAD);
        if (hours > GREATEST_TIME - state.room.time) {
            throw new IllegalStateException("the time would exceed 99999");
        }
        int unsafe = 0;
        for (int hour = 0; hour < hours; hour++) {
            unsafe += state.passHour(setup);
        }
        return unsafe;
    }

    // ---- predictions; nothing changes

    public int roomIn(int hours) throws IllegalArgumentException {
        requireHours(hours, 1, HOURS_AHEAD);
        roomAhead.copyFrom(state.room);
        int humidity = 0;
        for (int hour = 0; hour < hours; hour++) {
            humidity = roomAhead.passHour(setup);
        }
        return humidity;
    }

    public int humidityIn(int number, int hours) throws IndexOutOfBoundsException, IllegalArgumentException {
        Vitrine vitrine = vitrineAt(number);
        requireHours(hours, 0, HOURS_AHEAD);
        roomAhead.copyFrom(state.room);
        trial.copyFrom(vitrine);
        for (int hour = 0; hour < hours; hour++) {
            trial.passHour(roomAhead.passHour(setup));
        }
        return trial.humidity();
    }

    public int unsafeIn(int number) throws IndexOutOfBoundsException {
        trial.copyFrom(vitrineAt(number));
        roomAhead.copyFrom(state.room);
        for (int hour = 1; hour <= HOURS_AHEAD; hour++) {
            trial.passHour(roomAhead.passHour(setup));
            if (trial.isUnsafe()) {
                return hour;
            }
        }
        return NONE;
    }

    public int restOf(int number) throws IndexOutOfBoundsException, NoSuchElementException {
        int humidity = vitrineAt(number).restHumidity();
        if (humidity == NONE) {
            throw new NoSuchElementException("the case would not come to rest");
        }
        return humidity;
    }

    public int massFor(int number, int kind, int humidity, int hours)
            throws IndexOutOfBoundsException, IllegalArgumentException, NoSuchElementException {
        Vitrine vitrine = vitrineAt(number);
        Kind sorbent = kindAt(kind);
        requireHumidity(humidity);
        requireHours(hours, 1, HOURS_OF_TRIALS);
        foreseeRooms(hours);
        // A greater mass can be worse, so that each one has to be tried.
        for (int mass = 1; mass <= GREATEST_MASS; mass++) {
            trial.copyFrom(vitrine);
            trial.put(state.nextSerial, sorbent, mass, sorbent.moistureAt(humidity, mass));
            if (unsafeHoursOfTrial(hours, 1) == 0) {
                return mass;
            }
        }
        throw new NoSuchElementException("no mass keeps the case safe");
    }

    public int bestFor(int serial, int hours) throws NoSuchElementException, IllegalArgumentException {
        Vitrine vitrine = vitrineAt(caseOf(serial));
        requireHours(hours, 1, HOURS_OF_TRIALS);
        foreseeRooms(hours);
        int index = vitrine.indexOf(serial);
        int best = 0;
        int fewest = hours + 1;
        for (int humidity = 0; humidity <= SATURATED; humidity += STEP_OF_TRIALS) {
            trial.copyFrom(vitrine);
            trial.recondition(index, state.nextSerial, humidity);
            int unsafe = unsafeHoursOfTrial(hours, fewest);
            if (unsafe < fewest) {
                fewest = unsafe;
                best = humidity;
            }
        }
        return best;
    }

    /** The trials of one call all meet the same room, which is therefore foreseen once. */
    private void foreseeRooms(int hours) {
        roomAhead.copyFrom(state.room);
        for (int hour = 0; hour < hours && hour < roomsAhead.length; hour++) {
            roomsAhead[hour] = roomAhead.passHour(setup);
        }
    }

    /** Stops at "enough" unsafe hours, for more of them would not change what the caller decides. */
    private int unsafeHoursOfTrial(int hours, int enough) {
        int unsafe = 0;
        for (int hour = 0; hour < hours && hour < roomsAhead.length && unsafe < enough; hour++) {
            trial.passHour(roomsAhead[hour]);
            if (trial.isUnsafe()) {
                unsafe++;
            }
        }
        return unsafe;
    }

    // ---- saved states

    public void save(int slot) throws IndexOutOfBoundsException {
        requireSlot(slot);
        slots[slot].copyFrom(state);
        isSaved[slot] = true;
    }

    public void restore(int slot) throws IndexOutOfBoundsException, NoSuchElementException {
        requireSlot(slot);
        if (!isSaved[slot]) {
            throw new NoSuchElementException("nothing is saved in this slot");
        }
        state.copyFrom(slots[slot]);
    }

    // ---- what several calls require

    private Vitrine vitrineAt(int number) {
        if (number < 0 || number >= setup.caseCount) {
            throw new IndexOutOfBoundsException("there is no such case");
        }
        return state.vitrines[number];
    }

    private Logbook logbookAt(int number) {
        if (number < 0 || number >= setup.caseCount) {
            throw new IndexOutOfBoundsException("there is no such case");
        }
        return state.logbooks[number];
    }

    private Kind kindAt(int kind) {
        if (kind < 0 || kind >= setup.kindCount) {
            throw new IndexOutOfBoundsException("there is no such kind");
        }
        return setup.kinds[kind];
    }

    private void requireHumidity(int humidity) {
        if (humidity < 0 || humidity > SATURATED) {
            throw new IllegalArgumentException("a humidity is 0 to 1000");
        }
    }

    private void requireHours(int hours, int least, int most) {
        if (hours < least || hours > most) {
            throw new IllegalArgumentException("hours are out of range");
        }
    }

    private void requireAnHour() {
        if (state.room.time < 1) {
            throw new NoSuchElementException("no hour has passed");
        }
    }

    private void requireSlot(int slot) {
        if (slot < 0 || slot >= SLOTS) {
            throw new IndexOutOfBoundsException("a slot is 0 or 1");
        }
    }

    /** Seasons and isotherms go along such a line, with the same rounding toward 0. */
    private static int onLine(int first, int second, int since, int span) {
        return span < 1 ? first : first + (second - first) * since / span;
    }

    /** Collects a text, and reads it token by token. At the first error from the left it throws. */
    private static final class Reader {
        private static final int END = 0;
        private static final int WORD = 1;
        private static final int NUMBER = 2;
        private static final int SEMICOLON = 3;
        private static final int WRONG = 4;

        private static final int MISPLACED = 1;
        private static final int OUT_OF_RANGE = 2;
        private static final int WRONG_NAME = 3;
        private static final int NO_ROOM = 4;

        private final byte[] text = new byte[TEXT_BYTES];
        private int length = 0;
        private int code = 0;
        private int codeAt = NONE;
        private int token = END;
        private int start = 0;
        private int end = 0;
        private int value = 0;
        private final long[] kindNames = new long[KINDS];
        private final long[] caseNames = new long[CASES];

        void appendBytes(int four) {
            for (int shift = 24; shift >= 0 && length < text.length; shift -= 8) {
                text[length] = (byte) (four >>> shift);
                length++;
            }
        }

        void readInto(Setup setup) {
            code = 0;
            codeAt = NONE;
            end = 0;
            setup.clear();
            readToken();
            readMuseum(setup);
            for (int n = 0; n < SEASONS && at("season"); n++) {
                readSeason(setup);
            }
            refuse("season");
            for (int n = 0; n < VISITOR_STATEMENTS && at("visitors"); n++) {
                readVisitors(setup);
            }
            refuse("visitors");
            for (int n = 0; n < KINDS && at("kind"); n++) {
                readKind(setup, n);
            }
            refuse("kind");
            for (int n = 0; n < CASES && at("case"); n++) {
                readCase(setup, n);
            }
            refuse("case");
            // One more than there can be: that one ends with the error that its case is full.
            for (int n = 0; n <= CASES * CASSETTES && at("cassette"); n++) {
                readCassette(setup);
            }
            if (token != END) {
                fail(MISPLACED);
            }
            length = 0;
        }

        private void readMuseum(Setup setup) {
            takeWord("museum");
            setup.persistence = takeNumber(0, 999);
            setup.loadOfVisitor = takeNumber(0, 99);
            takeSemicolon();
        }

        private void readSeason(Setup setup) {
            readToken();
            int day = takeNumber(setup.nextDay(), DAYS_PER_YEAR - 1);
            int point = takeNumber(0, SATURATED);
            takeSemicolon();
            setup.addSeason(day, point);
        }

        private void readVisitors(Setup setup) {
            readToken();
            int first = takeNumber(0, HOURS_PER_DAY - 1);
            int last = takeNumber(first, HOURS_PER_DAY - 1);
            int visitors = takeNumber(0, 999);
            takeSemicolon();
            setup.addVisitors(first, last, visitors);
        }

        private void readKind(Setup setup, int number) {
            readToken();
            kindNames[number] = takeNewName(kindNames, number);
            Kind kind = setup.kinds[number];
            kind.begin(number, takeNumber(0, 1000));
            for (int n = 0; n < POINTS && (n < 2 || at("point")); n++) {
                readPoint(kind);
            }
            refuse("point");
            takeSemicolon();
            setup.kindCount = number + 1;
        }

        private void readPoint(Kind kind) {
            takeWord("point");
            int humidity = takeNumber(kind.nextHumidity(), SATURATED);
            int content = takeNumber(kind.lastContent(), 9999);
            kind.addPoint(humidity, content);
        }

        private void readCase(Setup setup, int number) {
            readToken();
            caseNames[number] = takeNewName(caseNames, number);
            Vitrine vitrine = setup.vitrines[number];
            int volume = takeNumber(100, 9999);
            int leak = takeNumber(0, 1000);
            int humidity = takeNumber(0, SATURATED);
            vitrine.begin(volume, leak, humidity);
            if (at("safe")) {
                readToken();
                vitrine.low = takeNumber(0, SATURATED);
                vitrine.high = takeNumber(vitrine.low, SATURATED);
            }
            takeSemicolon();
            setup.caseCount = number + 1;
        }

        private void readCassette(Setup setup) {
            readToken();
            Vitrine vitrine = setup.vitrines[knownName(caseNames, setup.caseCount)];
            if (vitrine.isFull()) {
                fail(NO_ROOM);
            }
            readToken();
            Kind kind = setup.kinds[knownName(kindNames, setup.kindCount)];
            readToken();
            int mass = takeNumber(1, GREATEST_MASS);
            int humidity = takeNumber(0, SATURATED);
            takeSemicolon();
            vitrine.put(setup.cassetteCount, kind, mass, kind.moistureAt(humidity, mass));
            setup.cassetteCount++;
        }

        private void takeWord(String word) {
            if (!at(word)) {
                fail(MISPLACED);
            }
            readToken();
        }

        private void takeSemicolon() {
            if (token != SEMICOLON) {
                fail(MISPLACED);
            }
            readToken();
        }

        private int takeNumber(int least, int most) {
            if (token != NUMBER) {
                fail(MISPLACED);
            }
            if (value < least || value > most) {
                fail(OUT_OF_RANGE);
            }
            int number = value;
            readToken();
            return number;
        }

        private long takeNewName(long[] names, int count) {
            long name = nameHere();
            if (indexOf(names, count, name) != NONE) {
                fail(WRONG_NAME);
            }
            readToken();
            return name;
        }

        /** Stays at the name, for the caller may find another fault with it. */
        private int knownName(long[] names, int count) {
            int index = indexOf(names, count, nameHere());
            if (index == NONE) {
                fail(WRONG_NAME);
            }
            return index;
        }

        /** Eight letters fit into one number, so that names need no texts of their own. */
        private long nameHere() {
            if (token != WORD || end - start > NAME_LETTERS) {
                fail(MISPLACED);
            }
            long name = 0;
            for (int i = start; i < end; i++) {
                name = name * 32 + (text[i] - 'a' + 1);
            }
            return name;
        }

        private static int indexOf(long[] names, int count, long name) {
            for (int i = 0; i < count && i < names.length; i++) {
                if (names[i] == name) {
                    return i;
                }
            }
            return NONE;
        }

        private void refuse(String word) {
            if (at(word)) {
                fail(NO_ROOM);
            }
        }

        private boolean at(String word) {
            if (token != WORD || end - start != word.length()) {
                return false;
            }
            for (int i = start; i < end; i++) {
                if (text[i] != word.charAt(i - start)) {
                    return false;
                }
            }
            return true;
        }

        /** The end of the text is a token too, and stands behind the last byte. */
        private void readToken() {
            while (end < length && isBlank(text[end])) {
                end++;
            }
            start = end;
            value = 0;
            if (start >= length) {
                token = END;
                return;
            }
            token = tokenOf(text[start]);
            end = start + 1;
            if (token == WORD || token == NUMBER) {
                while (end < length && tokenOf(text[end]) == token) {
                    end++;
                }
            }
            if (token == NUMBER) {
                readValue();
            }
        }

        private void readValue() {
            if (end - start > NUMBER_DIGITS) {
                token = WRONG;
                return;
            }
            for (int i = start; i < end; i++) {
                value = value * 10 + (text[i] - '0');
            }
        }

        private static boolean isBlank(byte sign) {
            return sign == 10 || sign == 32;
        }

        private static int tokenOf(byte sign) {
            if (sign >= 'a' && sign <= 'z') {
                return WORD;
            }
            if (sign >= '0' && sign <= '9') {
                return NUMBER;
            }
            return sign == ';' ? SEMICOLON : WRONG;
        }

        /** The buffer is to be empty behind an error too. */
        private void fail(int kindOfError) {
            code = kindOfError;
            codeAt = start;
            length = 0;
            throw new IllegalArgumentException("the text has an error");
        }
    }

    /** What a text says. It does not change until the next one is loaded. */
    private static final class Setup {
        private int persistence = 0;
        private int loadOfVisitor = 0;
        private int seasonCount = 0;
        private final int[] seasonDays = new int[SEASONS];
        private final int[] seasonPoints = new int[SEASONS];
        private final int[] visitorsOfHours = new int[HOURS_PER_DAY];
        private int kindCount = 0;
        private final Kind[] kinds = new Kind[KINDS];
        private int caseCount = 0;
        private final Vitrine[] vitrines = new Vitrine[CASES];
        private int cassetteCount = 0;

        Setup() {
            for (int i = 0; i < kinds.length; i++) {
                kinds[i] = new Kind();
            }
            for (int i = 0; i < vitrines.length; i++) {
                vitrines[i] = new Vitrine();
            }
        }

        void clear() {
            persistence = 0;
            loadOfVisitor = 0;
            seasonCount = 0;
            kindCount = 0;
            caseCount = 0;
            cassetteCount = 0;
            for (int i = 0; i < visitorsOfHours.length; i++) {
                visitorsOfHours[i] = 0;
            }
        }

        int nextDay() {
            int last = seasonCount - 1;
            return last < 0 || last >= SEASONS ? 0 : seasonDays[last] + 1;
        }

        void addSeason(int day, int point) {
            if (seasonCount < SEASONS) {
                seasonDays[seasonCount] = day;
                seasonPoints[seasonCount] = point;
                seasonCount++;
            }
        }

        void addVisitors(int first, int last, int number) {
            for (int hour = first; hour <= last && hour < visitorsOfHours.length; hour++) {
                visitorsOfHours[hour] += number;
            }
        }

        int visitorsAt(int hour) {
            return hour < 0 || hour >= visitorsOfHours.length ? 0 : visitorsOfHours[hour];
        }

        int setPointOf(int day) {
            int last = seasonCount - 1;
            if (last < 0 || last >= SEASONS) {
                return SET_POINT_WITHOUT_SEASONS;
            }
            // Before the first season of a year the last one of the year before still rules.
            int from = last;
            for (int i = 0; i <= last; i++) {
                if (seasonDays[i] <= day) {
                    from = i;
                }
            }
            int to = from == last ? 0 : from + 1;
            int span = seasonDays[to] - seasonDays[from] + (from == last ? DAYS_PER_YEAR : 0);
            int since = day - seasonDays[from] + (day < seasonDays[from] ? DAYS_PER_YEAR : 0);
            return onLine(seasonPoints[from], seasonPoints[to], since, span);
        }
    }

    /** A kind of sorbent with its isotherm. */
    private static final class Kind {
        private int number = 0;
        private int speed = 0;
        private int count = 0;
        private final int[] humidities = new int[POINTS];
        private final int[] contents = new int[POINTS];

        void begin(int newNumber, int newSpeed) {
            number = newNumber;
            speed = newSpeed;
            count = 0;
        }

        int nextHumidity() {
            int last = count - 1;
            return last < 0 || last >= POINTS ? 0 : humidities[last] + 1;
        }

        int lastContent() {
            int last = count - 1;
            return last < 0 || last >= POINTS ? 0 : contents[last];
        }

        void addPoint(int humidity, int newContent) {
            if (count < POINTS) {
                humidities[count] = humidity;
                contents[count] = newContent;
                count++;
            }
        }

        int contentAt(int humidity) {
            if (humidity <= humidities[0]) {
                return contents[0];
            }
            for (int i = 1; i < count; i++) {
                if (humidity <= humidities[i]) {
                    return onLine(contents[i - 1], contents[i],
                            humidity - humidities[i - 1], humidities[i] - humidities[i - 1]);
                }
            }
            return lastContent();
        }

        int moistureAt(int humidity, int mass) {
            return contentAt(humidity) * mass / 1000;
        }
    }

    private static final class Cassette {
        private int serial = NONE;
        private Kind kind = null;
        private int mass = 0;
        private int moisture = 0;

        void begin(int newSerial, Kind newKind, int newMass, int newMoisture) {
            serial = newSerial;
            kind = newKind;
            mass = newMass;
            moisture = newMoisture;
        }

        void renew(int newSerial, int humidity) {
            serial = newSerial;
            moisture = moistureAt(humidity);
        }

        void copyFrom(Cassette other) {
            serial = other.serial;
            kind = other.kind;
            mass = other.mass;
            moisture = other.moisture;
        }

        int kindNumber() {
            return kind == null ? NONE : kind.number;
        }

        int moistureAt(int humidity) {
            return kind == null ? 0 : kind.moistureAt(humidity, mass);
        }

        int wishAt(int humidity) {
            return kind == null ? 0 : (kind.moistureAt(humidity, mass) - moisture) * kind.speed / 1000;
        }

        /** An isotherm never falls, so that halving steps find the last humidity that fits; NONE is the start. */
        int ownHumidity() {
            int humidity = NONE;
            for (int step = 512; step > 0; step /= 2) {
                int next = humidity + step;
                if (next <= SATURATED && moistureAt(next) <= moisture) {
                    humidity = next;
                }
            }
            return humidity;
        }
    }

    /** A display case as far as its climate goes; what has been noted about it stands in its logbook. */
    private static final class Vitrine {
        private int volume = 0;
        private int leak = 0;
        private int low = 0;
        private int high = SATURATED;
        private int air = 0;
        private int count = 0;
        /** One more than a case may have, for the cassette that massFor() tries. */
        private final Cassette[] cassettes = new Cassette[CASSETTES + 1];

        Vitrine() {
            for (int i = 0; i < cassettes.length; i++) {
                cassettes[i] = new Cassette();
            }
        }

        void begin(int newVolume, int newLeak, int humidity) {
            volume = newVolume;
            leak = newLeak;
            low = 0;
            high = SATURATED;
            count = 0;
            fillAir(humidity);
        }

        void copyFrom(Vitrine other) {
            volume = other.volume;
            leak = other.leak;
            low = other.low;
            high = other.high;
            air = other.air;
            count = other.count;
            for (int i = 0; i < count && i < cassettes.length; i++) {
                cassettes[i].copyFrom(other.cassettes[i]);
            }
        }

        void fillAir(int humidity) {
            air = airAt(humidity);
        }

        int airAt(int humidity) {
            return volume * humidity / 1000;
        }

        /** A cassette gives only to air that is not saturated, so that the air stays below 20000 units. */
        int humidity() {
            return volume < 1 ? 0 : 1000 * air / volume;
        }

        boolean isUnsafe() {
            int humidity = humidity();
            return humidity < low || humidity > high;
        }

        boolean isFull() {
            return count >= CASSETTES;
        }

        int moistureOfCassettes() {
            int sum = 0;
            for (int i = 0; i < count && i < cassettes.length; i++) {
                sum += cassettes[i].moisture;
            }
            return sum;
        }

        int moisture() {
            return air + moistureOfCassettes();
        }

        int moistureAt(int humidity) {
            int sum = airAt(humidity);
            for (int i = 0; i < count && i < cassettes.length; i++) {
                sum += cassettes[i].moistureAt(humidity);
            }
            return sum;
        }

        /** More humidity never means less moisture, so that halving steps find the last humidity with too little. */
        int restHumidity() {
            int needed = moisture();
            int tooDry = NONE;
            for (int step = 512; step > 0; step /= 2) {
                int next = tooDry + step;
                if (next <= SATURATED && moistureAt(next) < needed) {
                    tooDry = next;
                }
            }
            return tooDry == SATURATED ? NONE : tooDry + 1;
        }

        int indexOf(int serial) {
            for (int i = 0; i < count && i < cassettes.length; i++) {
                if (cassettes[i].serial == serial) {
                    return i;
                }
            }
            return NONE;
        }

        int moistureOf(int index) {
            return index < 0 || index >= cassettes.length ? 0 : cassettes[index].moisture;
        }

        void put(int serial, Kind kind, int mass, int moisture) {
            if (count < cassettes.length) {
                cassettes[count].begin(serial, kind, mass, moisture);
                count++;
            }
        }

        void putCopyOf(Vitrine other, int index) {
            if (count < cassettes.length && index >= 0 && index < other.cassettes.length) {
                cassettes[count].copyFrom(other.cassettes[index]);
                count++;
            }
        }

        void recondition(int index, int serial, int humidity) {
            if (index >= 0 && index < cassettes.length) {
                cassettes[index].renew(serial, humidity);
            }
        }

        void takeOut(int index) {
            if (index < 0 || index >= count) {
                return;
            }
            for (int i = index; i + 1 < count && i + 1 < cassettes.length; i++) {
                cassettes[i].copyFrom(cassettes[i + 1]);
            }
            count--;
        }

        /** Answers what came in by the leak, for the balance. */
        int passHour(int humidityOfRoom) {
            long lack = volume * humidityOfRoom - 1000 * air;
            int flow = (int) (lack * leak / 1000000);
            air += flow;
            for (int i = 0; i < count && i < cassettes.length; i++) {
                Cassette cassette = cassettes[i];
                int wish = cassette.wishAt(humidity());
                int taken = wish < air ? wish : air;
                cassette.moisture += taken;
                air -= taken;
            }
            return flow;
        }
    }

    /** What has been noted about a case since loading. */
    private static final class Logbook {
        private long atLoading = 0;
        private long leaked = 0;
        private long cameIn = 0;
        private long wentOut = 0;
        private int unsafeHours = 0;
        private int lowest = NONE;
        private int greatest = NONE;
        private long sumOfRecords = 0;
        /** The record of an hour stands at the hour modulo 24. */
        private final int[] records = new int[HOURS_PER_DAY];

        void begin(int moisture) {
            atLoading = moisture;
            leaked = 0;
            cameIn = 0;
            wentOut = 0;
            unsafeHours = 0;
            lowest = NONE;
            greatest = NONE;
            sumOfRecords = 0;
        }

        void copyFrom(Logbook other) {
            atLoading = other.atLoading;
            leaked = other.leaked;
            cameIn = other.cameIn;
            wentOut = other.wentOut;
            unsafeHours = other.unsafeHours;
            lowest = other.lowest;
            greatest = other.greatest;
            sumOfRecords = other.sumOfRecords;
            System.arraycopy(other.records, 0, records, 0, HOURS_PER_DAY);
        }

        void note(int hour, int humidity, boolean isUnsafe) {
            if (hour >= 0) {
                records[hour % HOURS_PER_DAY] = humidity;
            }
            sumOfRecords += humidity;
            lowest = lowest == NONE || humidity < lowest ? humidity : lowest;
            greatest = humidity > greatest ? humidity : greatest;
            unsafeHours += isUnsafe ? 1 : 0;
        }

        int recordOf(int hour) {
            return hour < 0 ? NONE : records[hour % HOURS_PER_DAY];
        }

        int swingAt(int time) {
            int least = records[0];
            int most = records[0];
            for (int i = 1; i < time && i < records.length; i++) {
                least = records[i] < least ? records[i] : least;
                most = records[i] > most ? records[i] : most;
            }
            return most - least;
        }
    }

    private static final class Room {
        private int time = 0;
        private int excess = 0;
        private int groups = 0;

        void begin() {
            time = 0;
            excess = 0;
            groups = 0;
        }

        void copyFrom(Room other) {
            time = other.time;
            excess = other.excess;
            groups = other.groups;
        }

        int day() {
            return time / HOURS_PER_DAY % DAYS_PER_YEAR;
        }

        int hourOfDay() {
            return time % HOURS_PER_DAY;
        }

        int humidity(Setup setup) {
            int humidity = setup.setPointOf(day()) + excess;
            if (humidity < 0) {
                return 0;
            }
            return humidity > SATURATED ? SATURATED : humidity;
        }

        /** Answers the humidity that the cases meet in this hour. The excess stays below 1.1 thousand million. */
        int passHour(Setup setup) {
            int people = setup.visitorsAt(hourOfDay()) + groups;
            excess = (int) ((long) excess * setup.persistence / 1000) + setup.loadOfVisitor * people;
            groups = 0;
            int humidity = humidity(setup);
            time++;
            return humidity;
        }
    }

    /** All that changes from call to call, but for the text and the error: what is saved and restored. */
    private static final class State {
        private final Room room = new Room();
        private int nextSerial = 0;
        private int caseCount = 0;
        private final Vitrine[] vitrines = new Vitrine[CASES];
        private final Logbook[] logbooks = new Logbook[CASES];

        State() {
            for (int i = 0; i < CASES; i++) {
                vitrines[i] = new Vitrine();
                logbooks[i] = new Logbook();
            }
        }

        void begin(Setup setup) {
            room.begin();
            nextSerial = setup.cassetteCount;
            caseCount = setup.caseCount;
            for (int i = 0; i < caseCount && i < CASES; i++) {
                vitrines[i].copyFrom(setup.vitrines[i]);
                logbooks[i].begin(vitrines[i].moisture());
            }
        }

        void copyFrom(State other) {
            room.copyFrom(other.room);
            nextSerial = other.nextSerial;
            caseCount = other.caseCount;
            for (int i = 0; i < caseCount && i < CASES; i++) {
                vitrines[i].copyFrom(other.vitrines[i]);
                logbooks[i].copyFrom(other.logbooks[i]);
            }
        }

        int takeSerial() {
            return nextSerial++;
        }

        int cassettesInAll() {
            int sum = 0;
            for (int i = 0; i < caseCount && i < CASES; i++) {
                sum += vitrines[i].count;
            }
            return sum;
        }

        int holderOf(int serial) {
            for (int i = 0; i < caseCount && i < CASES; i++) {
                if (vitrines[i].indexOf(serial) != NONE) {
                    return i;
                }
            }
            return NONE;
        }

        /** Answers in how many cases the hour was unsafe. */
        int passHour(Setup setup) {
            int unsafe = 0;
            int hour = room.time;
            int humidityOfRoom = room.passHour(setup);
            for (int i = 0; i < caseCount && i < CASES; i++) {
                Vitrine vitrine = vitrines[i];
                logbooks[i].leaked += vitrine.passHour(humidityOfRoom);
                boolean isUnsafe = vitrine.isUnsafe();
                logbooks[i].note(hour, vitrine.humidity(), isUnsafe);
                unsafe += isUnsafe ? 1 : 0;
            }
            return unsafe;
        }
    }
}
