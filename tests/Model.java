import java.nio.charset.StandardCharsets;
import java.util.ArrayList;
import java.util.List;
import java.util.NoSuchElementException;

/**
 * The document once more, as literally as it goes and without regard to speed: predictions copy the
 * whole museum and let it go on, searches try every value, tokens are all read before the grammar.
 */
final class Model {
    private static final class Kind {
        String name;
        int speed;
        final List<int[]> points = new ArrayList<>();
    }

    private static final class Cassette {
        int serial;
        int kind;
        int mass;
        long moisture;
    }

    private static final class Box {
        String name;
        long volume;
        long leak;
        long air;
        int low = 0;
        int high = 1000;
        long first;
        long leaked;
        long in;
        long out;
        int unsafe;
        List<Cassette> cassettes = new ArrayList<>();
        List<Long> records = new ArrayList<>();
    }

    private static final class Museum {
        long persistence;
        long load;
        List<int[]> seasons = new ArrayList<>();
        List<int[]> visitors = new ArrayList<>();
        List<Kind> kinds = new ArrayList<>();
        List<Box> boxes = new ArrayList<>();
        long excess;
        int time;
        int groups;
        int serial;

        Museum copy() {
            Museum m = ahead();
            for (int i = 0; i < boxes.size(); i++) {
                m.boxes.get(i).records.addAll(boxes.get(i).records);
            }
            return m;
        }

        /** A copy for predictions, which need no records. */
        Museum ahead() {
            Museum m = new Museum();
            m.persistence = persistence;
            m.load = load;
            m.seasons = seasons;
            m.visitors = visitors;
            m.kinds = kinds;
            m.excess = excess;
            m.time = time;
            m.groups = groups;
            m.serial = serial;
            for (Box b : boxes) {
                Box c = new Box();
                c.name = b.name;
                c.volume = b.volume;
                c.leak = b.leak;
                c.air = b.air;
                c.low = b.low;
                c.high = b.high;
                c.first = b.first;
                c.leaked = b.leaked;
                c.in = b.in;
                c.out = b.out;
                c.unsafe = b.unsafe;
                for (Cassette s : b.cassettes) {
                    Cassette d = new Cassette();
                    d.serial = s.serial;
                    d.kind = s.kind;
                    d.mass = s.mass;
                    d.moisture = s.moisture;
                    c.cassettes.add(d);
                }
                m.boxes.add(c);
            }
            return m;
        }
    }

    private static final class TextError extends RuntimeException {
        final int code;
        final int position;

        TextError(int code, int position) {
            this.code = code;
            this.position = position;
        }
    }

    private record Token(char type, String text, int position) {
    }

    private String text = "";
    private int code = 0;
    private int position = -1;
    private Museum museum = new Museum();
    private final Museum[] slots = new Museum[2];
    private List<Token> tokens;
    private int at;

    // ---- the setup

    int append(int a, int b, int c, int d, int e) {
        if (text.length() + 20 > 900) {
            throw new IllegalStateException();
        }
        byte[] bytes = new byte[20];
        int[] words = {a, b, c, d, e};
        for (int i = 0; i < 20; i++) {
            bytes[i] = (byte) (words[i / 4] >> (24 - 8 * (i % 4)));
        }
        text = text + new String(bytes, StandardCharsets.ISO_8859_1);
        return text.length();
    }

    int truncate(int length) {
        if (length < 0 || length > text.length()) {
            throw new IndexOutOfBoundsException();
        }
        text = text.substring(0, length);
        return length;
    }

    int load() {
        String whole = text;
        text = "";
        try {
            Museum read = parse(whole);
            museum = read;
            slots[0] = null;
            slots[1] = null;
            code = 0;
            position = -1;
            return museum.boxes.size();
        } catch (TextError e) {
            code = e.code;
            position = e.position;
            throw new IllegalArgumentException();
        }
    }

    int errorCode() {
        return code;
    }

    int errorPosition() {
        return position;
    }

    private static List<Token> tokensOf(String s) {
        List<Token> list = new ArrayList<>();
        int i = 0;
        while (i < s.length()) {
            char c = s.charAt(i);
            int j = i + 1;
            if (c == '\n' || c == ' ') {
                i = j;
                continue;
            }
            String class_ = c >= 'a' && c <= 'z' ? "[a-z]*" : c >= '0' && c <= '9' ? "[0-9]*" : null;
            while (class_ != null && j < s.length() && s.substring(i, j + 1).matches(class_)) {
                j++;
            }
            String token = s.substring(i, j);
            char type = class_ == null ? (c == ';' ? ';' : '?') : class_.equals("[a-z]*") ? 'w' : j - i <= 4 ? 'n' : '?';
            list.add(new Token(type, token, i));
            i = j;
        }
        list.add(new Token('$', "", s.length()));
        return list;
    }

    private Token here() {
        return tokens.get(at);
    }

    private boolean sees(String word) {
        return here().type == 'w' && here().text.equals(word);
    }

    private void error(int c) {
        throw new TextError(c, here().position);
    }

    private void word(String word) {
        if (!sees(word)) {
            error(1);
        }
        at++;
    }

    private void stop() {
        if (here().type != ';') {
            error(1);
        }
        at++;
    }

    private int number(int least, int most) {
        if (here().type != 'n') {
            error(1);
        }
        int n = Integer.parseInt(here().text);
        if (n < least || n > most) {
            error(2);
        }
        at++;
        return n;
    }

    private String name() {
        if (here().type != 'w' || here().text.length() > 8) {
            error(1);
        }
        return here().text;
    }

    private void roomFor(int have, int most) {
        if (have >= most) {
            error(4);
        }
        at++;
    }

    private Museum parse(String whole) {
        tokens = tokensOf(whole);
        at = 0;
        Museum m = new Museum();
        word("museum");
        m.persistence = number(0, 999);
        m.load = number(0, 99);
        stop();
        while (sees("season")) {
            roomFor(m.seasons.size(), 12);
            int least = m.seasons.isEmpty() ? 0 : m.seasons.get(m.seasons.size() - 1)[0] + 1;
            int day = number(least, 364);
            m.seasons.add(new int[] {day, number(0, 1000)});
            stop();
        }
        while (sees("visitors")) {
            roomFor(m.visitors.size(), 6);
            int first = number(0, 23);
            int last = number(first, 23);
            m.visitors.add(new int[] {first, last, number(0, 999)});
            stop();
        }
        while (sees("kind")) {
            roomFor(m.kinds.size(), 4);
            parseKind(m);
        }
        while (sees("case")) {
            roomFor(m.boxes.size(), 6);
            parseCase(m);
        }
        while (sees("cassette")) {
            at++;
            parseCassette(m);
        }
        if (here().type != '$') {
            error(1);
        }
        for (Box b : m.boxes) {
            b.first = moisture(b);
        }
        return m;
    }

    private void parseKind(Museum m) {
        Kind k = new Kind();
        k.name = name();
        for (Kind other : m.kinds) {
            if (other.name.equals(k.name)) {
                error(3);
            }
        }
        at++;
        k.speed = number(0, 1000);
        while (k.points.size() < 2 || sees("point")) {
            if (k.points.size() == 6) {
                error(4);
            }
            word("point");
            int[] before = k.points.isEmpty() ? new int[] {-1, 0} : k.points.get(k.points.size() - 1);
            int h = number(before[0] + 1, 1000);
            k.points.add(new int[] {h, number(before[1], 9999)});
        }
        stop();
        m.kinds.add(k);
    }

    private void parseCase(Museum m) {
        Box b = new Box();
        b.name = name();
        for (Box other : m.boxes) {
            if (other.name.equals(b.name)) {
                error(3);
            }
        }
        at++;
        b.volume = number(100, 9999);
        b.leak = number(0, 1000);
        b.air = b.volume * number(0, 1000) / 1000;
        if (sees("safe")) {
            at++;
            b.low = number(0, 1000);
            b.high = number(b.low, 1000);
        }
        stop();
        m.boxes.add(b);
    }

    private void parseCassette(Museum m) {
        Box box = null;
        for (Box b : m.boxes) {
            box = b.name.equals(name()) ? b : box;
        }
        name();
        if (box == null) {
            error(3);
        }
        if (box.cassettes.size() == 5) {
            error(4);
        }
        at++;
        int kind = -1;
        for (int i = 0; i < m.kinds.size(); i++) {
            kind = m.kinds.get(i).name.equals(name()) ? i : kind;
        }
        name();
        if (kind < 0) {
            error(3);
        }
        at++;
        int mass = number(1, 999);
        int humidity = number(0, 1000);
        stop();
        box.cassettes.add(conditioned(m, kind, mass, humidity));
    }

    // ---- the rules

    private static Cassette conditioned(Museum m, int kind, int mass, int humidity) {
        Cassette c = new Cassette();
        c.serial = m.serial++;
        c.kind = kind;
        c.mass = mass;
        c.moisture = contentOf(m, kind, humidity) * mass / 1000;
        return c;
    }

    private static long contentOf(Museum m, int kind, long humidity) {
        List<int[]> points = m.kinds.get(kind).points;
        for (int[] p : points) {
            if (p[0] == humidity) {
                return p[1];
            }
        }
        if (humidity < points.get(0)[0]) {
            return points.get(0)[1];
        }
        for (int i = 0; i + 1 < points.size(); i++) {
            int[] p = points.get(i);
            int[] q = points.get(i + 1);
            if (p[0] < humidity && humidity < q[0]) {
                return p[1] + (q[1] - p[1]) * (humidity - p[0]) / (q[0] - p[0]);
            }
        }
        return points.get(points.size() - 1)[1];
    }

    private static long wouldHave(Museum m, Cassette c, long humidity) {
        return contentOf(m, c.kind, humidity) * c.mass / 1000;
    }

    private static long setPointOf(Museum m, int day) {
        if (m.seasons.isEmpty()) {
            return 500;
        }
        // the seasons of last year, this year and the next one, on one line of days
        List<int[]> all = new ArrayList<>();
        for (int year = -1; year <= 1; year++) {
            for (int[] s : m.seasons) {
                all.add(new int[] {s[0] + 365 * year, s[1]});
            }
        }
        for (int i = 0; i + 1 < all.size(); i++) {
            int[] p = all.get(i);
            int[] q = all.get(i + 1);
            if (p[0] <= day && day < q[0]) {
                return p[1] + (q[1] - p[1]) * (day - p[0]) / (q[0] - p[0]);
            }
        }
        throw new AssertionError("a day without a season");
    }

    private static long room(Museum m) {
        return Math.max(0, Math.min(1000, setPointOf(m, m.time / 24 % 365) + m.excess));
    }

    private static int visitorsOf(Museum m, int hour) {
        int sum = 0;
        for (int[] v : m.visitors) {
            sum += v[0] <= hour && hour <= v[1] ? v[2] : 0;
        }
        return sum;
    }

    private static long humidityOf(Box b) {
        return 1000 * b.air / b.volume;
    }

    private static long inCassettes(Box b) {
        long sum = 0;
        for (Cassette c : b.cassettes) {
            sum += c.moisture;
        }
        return sum;
    }

    private static long moisture(Box b) {
        return b.air + inCassettes(b);
    }

    private static int hour(Museum m) {
        m.excess = m.excess * m.persistence / 1000 + m.load * (visitorsOf(m, m.time % 24) + m.groups);
        m.groups = 0;
        long room = room(m);
        int unsafe = 0;
        for (Box b : m.boxes) {
            long leak = (b.volume * room - 1000 * b.air) * b.leak / 1000000;
            b.air += leak;
            b.leaked += leak;
            for (Cassette c : b.cassettes) {
                long goal = wouldHave(m, c, humidityOf(b));
                long takes = Math.min(b.air, (goal - c.moisture) * m.kinds.get(c.kind).speed / 1000);
                c.moisture += takes;
                b.air -= takes;
            }
            b.records.add(humidityOf(b));
            if (humidityOf(b) < b.low || humidityOf(b) > b.high) {
                b.unsafe++;
                unsafe++;
            }
        }
        m.time++;
        return unsafe;
    }

    private Box box(int number) {
        if (number < 0 || number >= museum.boxes.size()) {
            throw new IndexOutOfBoundsException();
        }
        return museum.boxes.get(number);
    }

    private void kind(int kind) {
        if (kind < 0 || kind >= museum.kinds.size()) {
            throw new IndexOutOfBoundsException();
        }
    }

    private static void within(int value, int least, int most) {
        if (value < least || value > most) {
            throw new IllegalArgumentException();
        }
    }

    private static int indexIn(Box b, int serial) {
        for (int i = 0; i < b.cassettes.size(); i++) {
            if (b.cassettes.get(i).serial == serial) {
                return i;
            }
        }
        return -1;
    }

    // ---- the room

    int report(int what) {
        int cassettes = 0;
        for (Box b : museum.boxes) {
            cassettes += b.cassettes.size();
        }
        within(what, 0, 9);
        int time = museum.time;
        long[] all = {time, time / 24 % 365, time % 24, museum.boxes.size(), museum.kinds.size(), cassettes,
            museum.serial, museum.excess, room(museum), museum.groups};
        return Math.toIntExact(all[what]);
    }

    int setPoint(int day) {
        within(day, 0, 364);
        return (int) setPointOf(museum, day);
    }

    int visitors(int hour) {
        within(hour, 0, 23);
        return visitorsOf(museum, hour);
    }

    int content(int kind, int humidity) {
        kind(kind);
        return (int) contentOf(museum, kind, humidity);
    }

    int announce(int visitors) {
        within(visitors, 1, 999);
        if (museum.groups + visitors > 5000) {
            throw new IllegalStateException();
        }
        museum.groups += visitors;
        return museum.groups;
    }

    // ---- cases

    int displayCase(int number, int what) {
        Box b = box(number);
        within(what, 0, 10);
        long lowest = -1;
        long greatest = -1;
        for (long r : b.records) {
            lowest = lowest < 0 ? r : Math.min(lowest, r);
            greatest = Math.max(greatest, r);
        }
        long[] all = {b.volume, b.leak, b.air, humidityOf(b), b.cassettes.size(), inCassettes(b), b.low, b.high,
            b.unsafe, lowest, greatest};
        return Math.toIntExact(all[what]);
    }

    long balance(int number, int what) {
        Box b = box(number);
        within(what, 0, 4);
        return new long[] {b.first, b.leaked, b.in, b.out, moisture(b)}[what];
    }

    int recorded(int number, int hours) {
        Box b = box(number);
        within(hours, 0, 23);
        if (b.records.size() <= hours) {
            throw new NoSuchElementException();
        }
        return Math.toIntExact(b.records.get(b.records.size() - 1 - hours));
    }

    int swing(int number) {
        Box b = box(number);
        if (b.records.isEmpty()) {
            throw new NoSuchElementException();
        }
        List<Long> latest = b.records.subList(Math.max(0, b.records.size() - 24), b.records.size());
        return Math.toIntExact(java.util.Collections.max(latest) - java.util.Collections.min(latest));
    }

    double mean(int number) {
        Box b = box(number);
        if (b.records.isEmpty()) {
            throw new NoSuchElementException();
        }
        long sum = 0;
        for (long r : b.records) {
            sum += r;
        }
        return (double) sum / b.records.size();
    }

    double buffering(int number) {
        Box b = box(number);
        if (moisture(b) == 0) {
            throw new NoSuchElementException();
        }
        return (float) inCassettes(b) / (float) moisture(b);
    }

    int setLeak(int number, int leak) {
        Box b = box(number);
        within(leak, 0, 1000);
        int before = (int) b.leak;
        b.leak = leak;
        return before;
    }

    void setSafe(int number, int low, int high) {
        Box b = box(number);
        within(low, 0, 1000);
        within(high, low, 1000);
        b.low = low;
        b.high = high;
    }

    int open(int number) {
        Box b = box(number);
        long before = b.air;
        b.air = b.volume * room(museum) / 1000;
        b.leaked += b.air - before;
        return Math.toIntExact(b.air - before);
    }

    // ---- cassettes

    int cassette(int number, int index, int what) {
        Box b = box(number);
        if (index < 0 || index >= b.cassettes.size()) {
            throw new IndexOutOfBoundsException();
        }
        within(what, 0, 4);
        Cassette c = b.cassettes.get(index);
        int own = -1;
        for (int h = 0; h <= 1000; h++) {
            own = wouldHave(museum, c, h) <= c.moisture ? h : own;
        }
        return Math.toIntExact(new long[] {c.serial, c.kind, c.mass, c.moisture, own}[what]);
    }

    int caseOf(int serial) {
        for (int i = 0; i < museum.boxes.size(); i++) {
            if (indexIn(museum.boxes.get(i), serial) >= 0) {
                return i;
            }
        }
        throw new NoSuchElementException();
    }

    int add(int number, int kind, int mass, int humidity) {
        Box b = box(number);
        kind(kind);
        within(mass, 1, 999);
        within(humidity, 0, 1000);
        if (b.cassettes.size() >= 5) {
            throw new IllegalStateException();
        }
        Cassette c = conditioned(museum, kind, mass, humidity);
        b.cassettes.add(c);
        b.in += c.moisture;
        return c.serial;
    }

    int remove(int serial) {
        Box b = box(caseOf(serial));
        Cassette c = b.cassettes.remove(indexIn(b, serial));
        b.out += c.moisture;
        return (int) c.moisture;
    }

    int move(int serial, int number) {
        int from = caseOf(serial);
        Box b = box(number);
        if (from == number || b.cassettes.size() >= 5) {
            throw new IllegalStateException();
        }
        Box a = box(from);
        Cassette c = a.cassettes.remove(indexIn(a, serial));
        b.cassettes.add(c);
        a.out += c.moisture;
        b.in += c.moisture;
        return from;
    }

    int exchange(int serial, int humidity) {
        Box b = box(caseOf(serial));
        within(humidity, 0, 1000);
        int index = indexIn(b, serial);
        Cassette old = b.cassettes.get(index);
        Cassette c = conditioned(museum, old.kind, old.mass, humidity);
        b.cassettes.set(index, c);
        b.out += old.moisture;
        b.in += c.moisture;
        return c.serial;
    }

    // ---- time

    int advance(int hours) {
        within(hours, 1, 2000);
        if (museum.time + hours > 99999) {
            throw new IllegalStateException();
        }
        int unsafe = 0;
        for (int i = 0; i < hours; i++) {
            unsafe += hour(museum);
        }
        return unsafe;
    }

    // ---- predictions

    int roomIn(int hours) {
        within(hours, 1, 2000);
        Museum m = museum.ahead();
        for (int i = 0; i < hours; i++) {
            hour(m);
        }
        // the humidity of the room in the hour that passed last, on whose day it was
        m.time--;
        return (int) room(m);
    }

    int humidityIn(int number, int hours) {
        box(number);
        within(hours, 0, 2000);
        Museum m = museum.ahead();
        for (int i = 0; i < hours; i++) {
            hour(m);
        }
        return Math.toIntExact(humidityOf(m.boxes.get(number)));
    }

    int unsafeIn(int number) {
        box(number);
        Museum m = museum.ahead();
        int before = m.boxes.get(number).unsafe;
        for (int i = 1; i <= 2000; i++) {
            hour(m);
            if (m.boxes.get(number).unsafe > before) {
                return i;
            }
        }
        return -1;
    }

    int restOf(int number) {
        Box b = box(number);
        for (int h = 0; h <= 1000; h++) {
            long sum = b.volume * h / 1000;
            for (Cassette c : b.cassettes) {
                sum += wouldHave(museum, c, h);
            }
            if (sum >= moisture(b)) {
                return h;
            }
        }
        throw new NoSuchElementException();
    }

    private static int unsafeHours(Museum m, int number, int hours) {
        int before = m.boxes.get(number).unsafe;
        for (int i = 0; i < hours; i++) {
            hour(m);
        }
        return m.boxes.get(number).unsafe - before;
    }

    int massFor(int number, int kind, int humidity, int hours) {
        box(number);
        kind(kind);
        within(humidity, 0, 1000);
        within(hours, 1, 72);
        for (int mass = 1; mass <= 999; mass++) {
            Museum m = museum.ahead();
            m.boxes.get(number).cassettes.add(conditioned(m, kind, mass, humidity));
            if (unsafeHours(m, number, hours) == 0) {
                return mass;
            }
        }
        throw new NoSuchElementException();
    }

    int bestFor(int serial, int hours) {
        int number = caseOf(serial);
        within(hours, 1, 72);
        int best = -1;
        int fewest = 0;
        for (int humidity = 0; humidity <= 1000; humidity += 50) {
            Museum before = museum;
            museum = museum.ahead();
            exchange(serial, humidity);
            int unsafe = unsafeHours(museum, number, hours);
            museum = before;
            if (best < 0 || unsafe < fewest) {
                best = humidity;
                fewest = unsafe;
            }
        }
        return best;
    }

    // ---- saved states

    void save(int slot) {
        if (slot < 0 || slot > 1) {
            throw new IndexOutOfBoundsException();
        }
        slots[slot] = museum.copy();
    }

    void restore(int slot) {
        if (slot < 0 || slot > 1) {
            throw new IndexOutOfBoundsException();
        }
        if (slots[slot] == null) {
            throw new NoSuchElementException();
        }
        museum = slots[slot].copy();
    }
}
