import java.util.ArrayList;
import java.util.List;

/**
 * Long runs of calls, the same in each run of this test, on the class and on the model: every answer,
 * every exception and, now and then, everything that can be asked has to be the same.
 */
public final class ModelTests {
    private static final int RUNS = 1200;
    private static final int CALLS = 400;

    private long seed;
    private MuseumCases museum = new MuseumCases();
    private final Model model = new Model();
    private final List<String> log = new ArrayList<>();
    private boolean differs = false;

    private ModelTests(long seed) {
        this.seed = seed * 7919 + 17;
    }

    private int below(int bound) {
        seed = seed * 6364136223846793005L + 1442695040888963407L;
        return (int) ((seed >>> 33) % bound);
    }

    private int between(int low, int high) {
        return low + below(high - low + 1);
    }

    private boolean oneIn(int n) {
        return below(n) == 0;
    }

    private int wild() {
        int[] all = {Integer.MIN_VALUE, Integer.MAX_VALUE, -1, 0, 1, 1001, 999, 1000, 5000, 2001, 73, 365, -1000};
        return all[below(all.length)];
    }

    private int arg(int low, int high) {
        return oneIn(40) ? wild() : oneIn(25) ? (oneIn(2) ? low - 1 : high + 1) : oneIn(12) ? (oneIn(2) ? low : high) : between(low, high);
    }

    // ---- texts

    private String gap(boolean needed) {
        return needed ? (oneIn(20) ? "\n" : oneIn(30) ? "  " : " ") : oneIn(6) ? " " : "";
    }

    private String num(int low, int high) {
        int n = between(low, high);
        String s = Integer.toString(n);
        return oneIn(40) && s.length() < 4 ? "0" + s : s;
    }

    private String numbers(String... all) {
        StringBuilder s = new StringBuilder();
        for (int i = 0; i < all.length; i++) {
            s.append(gap(i > 0)).append(all[i]);
        }
        return s.toString();
    }

    private String name(int i) {
        String[] names = {"a", "case", "gel", "season", "zzzzzzzz", "aa", "cassette", "point", "b"};
        return names[i % names.length];
    }

    private String text() {
        boolean big = oneIn(3);
        boolean over = oneIn(4);
        StringBuilder s = new StringBuilder(gap(false) + "museum" + numbers(num(0, oneIn(3) ? 0 : 999), num(0, oneIn(3) ? 0 : 30)) + ";");
        int seasons = below(over ? 14 : big ? 3 : 6);
        int day = between(0, 30);
        for (int i = 0; i < seasons; i++) {
            s.append(gap(false)).append("season").append(numbers(Integer.toString(day), num(0, 1000))).append(";");
            day += between(oneIn(30) ? 0 : 1, 30);
        }
        int visitors = below(over ? 8 : 3);
        for (int i = 0; i < visitors; i++) {
            int first = below(24);
            s.append(gap(false)).append("visitors").append(numbers(Integer.toString(first), num(first, 23), num(0, oneIn(5) ? 999 : 50))).append(";");
        }
        kinds(s, over);
        return s.toString();
    }

    private void kinds(StringBuilder s, boolean over) {
        int kinds = oneIn(10) ? 0 : between(1, over ? 5 : 3);
        for (int i = 0; i < kinds; i++) {
            s.append(gap(false)).append("kind ").append(oneIn(30) ? name(0) : name(i)).append(gap(false)).append(oneIn(5) ? oneIn(2) ? "0" : "1000" : num(0, 1000));
            int points = oneIn(30) ? below(8) : between(2, oneIn(4) ? 6 : 3);
            int h = between(0, 200);
            int c = between(0, 300);
            for (int j = 0; j < points; j++) {
                s.append(gap(false)).append("point").append(numbers(Integer.toString(h), Integer.toString(c)));
                h += between(oneIn(40) ? 0 : 1, 250);
                c += between(oneIn(60) ? -3 : 0, oneIn(3) ? 3000 : 300);
            }
            s.append(";");
        }
        int cases = oneIn(10) ? 0 : between(1, over ? 7 : 4);
        for (int i = 0; i < cases; i++) {
            s.append(gap(false)).append("case ").append(oneIn(40) ? name(0) : name(i)).append(numbers(num(100, oneIn(2) ? 300 : 9999), num(0, oneIn(3) ? 1000 : 100), num(0, 1000)));
            if (oneIn(2)) {
                int low = between(0, 500);
                s.append("safe").append(numbers(Integer.toString(low), num(oneIn(40) ? 0 : low, 1000)));
            }
            s.append(";");
        }
        int cassettes = cases == 0 || kinds == 0 ? 0 : below(over ? 20 : 8);
        for (int i = 0; i < cassettes; i++) {
            s.append(gap(false)).append("cassette ").append(name(below(cases + (oneIn(40) ? 1 : 0)))).append(" ").append(name(below(kinds + (oneIn(40) ? 1 : 0))))
                .append(numbers(num(1, 999), num(0, 1000))).append(";");
        }
    }

    private byte[] spoilt(String text) {
        byte[] bytes = Check.bytes(text);
        if (oneIn(3) || bytes.length == 0) {
            return bytes;
        }
        int at = below(bytes.length);
        String head = text.substring(0, at);
        String tail = text.substring(at);
        String[] pieces = {"0", "99999", ";", "x", "point", "season 364 5;", "\u0000", "\u00ff", "A", " ", "1", "kind", "case", "cassette", "safe", "visitors", "abcdefghi", "-", "\t"};
        switch (below(4)) {
            case 0: return Check.bytes(head);
            case 1: return Check.bytes(head + pieces[below(pieces.length)] + tail);
            case 2: return Check.bytes(head + pieces[below(pieces.length)] + tail.substring(1));
            default: return Check.bytes(head + tail.substring(Math.min(tail.length(), between(1, 5))));
        }
    }

    // ---- calls

    private void both(String call, Check.Call mine, Check.Call due) {
        if (differs) {
            return;
        }
        Object got = Check.outcome(mine);
        Object want = Check.outcome(due);
        log.add(call + " = " + got);
        if (!got.equals(want)) {
            differs = true;
            System.out.println(String.join("\n", log.subList(Math.max(0, log.size() - 60), log.size())));
            System.out.println("due is " + want);
        }
    }

    private void writeAndLoad() {
        byte[] text = spoilt(text());
        if (text.length > 900) {
            text = java.util.Arrays.copyOf(text, 900);
        }
        truncate(0);
        for (int at = 0; at < text.length; at += 20) {
            append(Check.four(text, at), Check.four(text, at + 4), Check.four(text, at + 8), Check.four(text, at + 12), Check.four(text, at + 16));
        }
        truncate(text.length);
        log.add(new String(text, java.nio.charset.StandardCharsets.ISO_8859_1));
        both("load()", () -> museum.load(), () -> model.load());
        both("errorCode()", () -> museum.errorCode(), () -> model.errorCode());
        both("errorPosition()", () -> museum.errorPosition(), () -> model.errorPosition());
    }

    private void append(int a, int b, int c, int d, int e) {
        both("append", () -> museum.append(a, b, c, d, e), () -> model.append(a, b, c, d, e));
    }

    private void truncate(int length) {
        both("truncate(" + length + ")", () -> museum.truncate(length), () -> model.truncate(length));
    }

    private int serial() {
        return oneIn(30) ? wild() : between(-1, museum.report(6));
    }

    private int number() {
        return oneIn(25) ? wild() : between(oneIn(9) ? -1 : 0, oneIn(9) || museum.report(3) == 0 ? museum.report(3) : museum.report(3) - 1);
    }

    private int kind() {
        return oneIn(25) ? wild() : between(0, oneIn(9) || museum.report(4) == 0 ? museum.report(4) : museum.report(4) - 1);
    }

    private void askTheRoom() {
        int a = arg(0, 9);
        both("report(" + a + ")", () -> museum.report(a), () -> model.report(a));
        int b = arg(0, 364);
        both("setPoint(" + b + ")", () -> museum.setPoint(b), () -> model.setPoint(b));
        int c = arg(0, 23);
        both("visitors(" + c + ")", () -> museum.visitors(c), () -> model.visitors(c));
        int k = kind();
        int h = oneIn(5) ? wild() : between(-100, 1100);
        both("content(" + k + ", " + h + ")", () -> museum.content(k, h), () -> model.content(k, h));
    }

    private void askACase() {
        int n = number();
        int w = arg(0, 10);
        both("displayCase(" + n + ", " + w + ")", () -> museum.displayCase(n, w), () -> model.displayCase(n, w));
        int v = arg(0, 4);
        both("balance(" + n + ", " + v + ")", () -> museum.balance(n, v), () -> model.balance(n, v));
        int h = arg(0, 23);
        both("recorded(" + n + ", " + h + ")", () -> museum.recorded(n, h), () -> model.recorded(n, h));
        both("swing(" + n + ")", () -> museum.swing(n), () -> model.swing(n));
        both("mean(" + n + ")", () -> museum.mean(n), () -> model.mean(n));
        both("buffering(" + n + ")", () -> museum.buffering(n), () -> model.buffering(n));
        both("restOf(" + n + ")", () -> museum.restOf(n), () -> model.restOf(n));
        int i = between(-1, 5);
        int x = arg(0, 4);
        both("cassette(" + n + ", " + i + ", " + x + ")", () -> museum.cassette(n, i, x), () -> model.cassette(n, i, x));
    }

    private void changeACase() {
        int n = number();
        int a = arg(0, 1000);
        int b = oneIn(3) ? arg(0, 1000) : Math.min(1000, Math.max(a, between(0, 1000)));
        switch (below(3)) {
            case 0:
                both("setLeak(" + n + ", " + a + ")", () -> museum.setLeak(n, a), () -> model.setLeak(n, a));
                break;
            case 1:
                both("setSafe(" + n + ", " + a + ", " + b + ")",
                    () -> { museum.setSafe(n, a, b); return "set"; }, () -> { model.setSafe(n, a, b); return "set"; });
                break;
            default:
                both("open(" + n + ")", () -> museum.open(n), () -> model.open(n));
        }
    }

    private void changeCassettes() {
        int n = number();
        int k = kind();
        int m = arg(1, 999);
        int h = arg(0, 1000);
        int s = serial();
        switch (below(6)) {
            case 0:
                both("remove(" + s + ")", () -> museum.remove(s), () -> model.remove(s));
                break;
            case 1:
                both("move(" + s + ", " + n + ")", () -> museum.move(s, n), () -> model.move(s, n));
                break;
            case 2:
                both("exchange(" + s + ", " + h + ")", () -> museum.exchange(s, h), () -> model.exchange(s, h));
                break;
            case 3:
                both("caseOf(" + s + ")", () -> museum.caseOf(s), () -> model.caseOf(s));
                break;
            default:
                both("add(" + n + ", " + k + ", " + m + ", " + h + ")", () -> museum.add(n, k, m, h), () -> model.add(n, k, m, h));
        }
    }

    private void goOn() {
        int g = arg(1, oneIn(3) ? 999 : 60);
        if (oneIn(3)) {
            both("announce(" + g + ")", () -> museum.announce(g), () -> model.announce(g));
            return;
        }
        int hours = oneIn(20) ? arg(1, 2000) : between(1, oneIn(3) ? 60 : 4);
        both("advance(" + hours + ")", () -> museum.advance(hours), () -> model.advance(hours));
    }

    private void predict() {
        int n = number();
        int h = oneIn(20) ? arg(0, 2000) : between(0, 80);
        both("roomIn(" + h + ")", () -> museum.roomIn(h), () -> model.roomIn(h));
        both("humidityIn(" + n + ", " + h + ")", () -> museum.humidityIn(n, h), () -> model.humidityIn(n, h));
        if (oneIn(4)) {
            both("unsafeIn(" + n + ")", () -> museum.unsafeIn(n), () -> model.unsafeIn(n));
        }
        int t = oneIn(6) ? arg(1, 72) : between(1, 6);
        int s = serial();
        int k = kind();
        int u = arg(0, 1000);
        if (oneIn(3)) {
            both("bestFor(" + s + ", " + t + ")", () -> museum.bestFor(s, t), () -> model.bestFor(s, t));
        }
        if (oneIn(8)) {
            both("massFor(" + n + ", " + k + ", " + u + ", " + t + ")", () -> museum.massFor(n, k, u, t), () -> model.massFor(n, k, u, t));
        }
    }

    private void keep() {
        int s = arg(0, 1);
        if (oneIn(2)) {
            both("save(" + s + ")", () -> { museum.save(s); return "saved"; }, () -> { model.save(s); return "saved"; });
        } else {
            both("restore(" + s + ")", () -> { museum.restore(s); return "restored"; }, () -> { model.restore(s); return "restored"; });
        }
    }

    private void askEverything() {
        for (int i = 0; i < 10; i++) {
            int w = i;
            both("report(" + w + ")", () -> museum.report(w), () -> model.report(w));
        }
        for (int i = 0; i < museum.report(3); i++) {
            int n = i;
            for (int j = 0; j < 24; j++) {
                int w = j;
                both("displayCase(" + n + ", " + w + ")", () -> museum.displayCase(n, w), () -> model.displayCase(n, w));
                both("recorded(" + n + ", " + w + ")", () -> museum.recorded(n, w), () -> model.recorded(n, w));
                both("balance(" + n + ", " + w % 6 + ")", () -> museum.balance(n, w % 6), () -> model.balance(n, w % 6));
            }
            for (int j = 0; j < 25; j++) {
                int index = j / 5;
                int w = j % 5;
                both("cassette(" + n + ", " + index + ", " + w + ")", () -> museum.cassette(n, index, w), () -> model.cassette(n, index, w));
            }
        }
    }

    private void run() {
        for (int i = 0; i < 8 && museum.report(3) == 0; i++) {
            writeAndLoad();
        }
        for (int i = 0; i < CALLS && !differs; i++) {
            int which = below(100);
            if (which < 2) {
                writeAndLoad();
            } else if (which < 3) {
                int length = arg(0, 40);
                truncate(length);
                append(wild(), wild(), wild(), wild(), wild());
            } else if (which < 20) {
                askTheRoom();
            } else if (which < 40) {
                askACase();
            } else if (which < 50) {
                changeACase();
            } else if (which < 70) {
                changeCassettes();
            } else if (which < 85) {
                goOn();
            } else if (which < 93) {
                predict();
            } else if (which < 98) {
                keep();
            } else {
                askEverything();
            }
        }
        askEverything();
        Check.same("the run above agrees with the model", !differs, true);
    }

    private void runTexts() {
        for (int i = 0; i < 200 && !differs; i++) {
            writeAndLoad();
        }
        Check.same("the texts above agree with the model", !differs, true);
    }

    public static void main(String[] args) {
        int runs = args.length == 1 ? Integer.parseInt(args[0]) : RUNS;
        for (int i = 0; i < runs; i++) {
            new ModelTests(i).run();
            new ModelTests(i + 1000000L).runTexts();
        }
        Check.end("ModelTests");
    }
}
