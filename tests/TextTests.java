/** Promises 1 to 6: a new object, the text buffer, loading, and every error of a text at its place. */
public final class TextTests {
    private static final String BASE = "museum 500 1;season 0 400;season 100 600;visitors 10 11 50;visitors 11 12 7;"
        + "kind gel 500 point 200 100 point 800 400;kind wool 1000 point 0 0 point 1000 1000;"
        + "case a 1000 100 400 safe 350 410;case b 500 0 500;cassette a gel 100 400;";
    private static final String KIND_K = "museum 0 0;kind k 0 point 0 0 point 1 0;";
    private static final String CASE_A = KIND_K + "case a 100 0 0;";

    private TextTests() {
    }

    /** The error is due where the text has its "^", which does not belong to it. */
    private static void error(int code, String marked) {
        int position = marked.indexOf('^');
        String text = marked.replace("^", "");
        MuseumCases x = Check.museum(BASE);
        x.advance(11);
        x.save(1);
        String before = Check.state(x);
        Check.write(x, Check.bytes(text));
        Check.fails("load of \"" + marked + "\"", Check.IAE, () -> x.load());
        Check.same("the error of \"" + marked + "\"", x.errorCode() + " at " + x.errorPosition(), code + " at " + position);
        Check.same("all else behind \"" + marked + "\"", Check.state(x), before);
        Check.answers("set points behind \"" + marked + "\"", 500, () -> x.setPoint(50));
        Check.answers("visitors behind \"" + marked + "\"", 57, () -> x.visitors(11));
        Check.answers("isotherms behind \"" + marked + "\"", 250, () -> x.content(0, 500));
        Check.fails("the buffer is empty behind \"" + marked + "\"", Check.IOOBE, () -> x.truncate(1));
        x.advance(1);
        x.restore(1);
        Check.same("what was saved stays saved behind \"" + marked + "\"", Check.state(x), before);
    }

    private static void loads(int cases, String text) {
        MuseumCases x = new MuseumCases();
        Check.write(x, Check.bytes(text));
        Check.answers("load of \"" + text + "\"", cases, () -> x.load());
        Check.same("no error in \"" + text + "\"", x.errorCode() + " at " + x.errorPosition(), "0 at -1");
        Check.fails("the buffer is empty behind \"" + text + "\"", Check.IOOBE, () -> x.truncate(1));
    }

    /** The pieces differ by "#", a letter, and "%", a number of two digits. */
    private static String many(int n, String one) {
        StringBuilder s = new StringBuilder();
        for (int i = 0; i < n; i++) {
            s.append(one.replace("#", Character.toString('a' + i)).replace("%", Integer.toString(10 + i)));
        }
        return s.toString();
    }

    private static void p01NewObject() {
        Check.same("1 NONE", MuseumCases.NONE, -1);
        MuseumCases x = new MuseumCases();
        Check.same("1 a new museum", Check.all(x), "0 -1 0 0 0 0 0 0 0 0 500 0");
        Check.fails("1 the buffer is empty", Check.IOOBE, () -> x.truncate(1));
        Check.answers("1 setPoint(364)", 500, () -> x.setPoint(364));
        Check.answers("1 visitors(12)", 0, () -> x.visitors(12));
        Check.fails("1 no kind", Check.IOOBE, () -> x.content(0, 0));
        Check.fails("1 no case", Check.IOOBE, () -> x.displayCase(0, 0));
        Check.fails("1 no cassette", Check.NSEE, () -> x.caseOf(0));
        Check.fails("1 nothing saved", Check.NSEE, () -> Check.restore(x, 0));
        x.announce(999);
        x.advance(1);
        Check.same("1 no persistence and no load", Check.all(x), "0 -1 1 0 1 0 0 0 0 0 500 0");
    }

    private static void p02Append() {
        MuseumCases x = new MuseumCases();
        for (int i = 20; i <= 900; i += 20) {
            Check.answers("2 append", i, () -> x.append(0, 0, 0, 0, 0));
        }
        Check.failsAndStays("2 append behind 900", Check.ISE, x, () -> x.append(0, 0, 0, 0, 0));
        Check.answers("2 truncate(881)", 881, () -> x.truncate(881));
        Check.fails("2 append behind 881", Check.ISE, () -> x.append(0, 0, 0, 0, 0));
        Check.answers("2 it changed nothing", 881, () -> x.truncate(881));
        Check.answers("2 truncate(880)", 880, () -> x.truncate(880));
        Check.answers("2 append behind 880", 900, () -> x.append(0, 0, 0, 0, 0));
        MuseumCases y = new MuseumCases();
        // "muse" "um 1" "0 20" ";   " "    " and then 32, 10, 32, 255
        y.append(0x6d757365, 0x756d2031, 0x30203230, 0x3b202020, 0x20202020);
        Check.answers("2 append", 40, () -> y.append(0x200a20ff, -1, Check.MIN, Check.MAX, 0));
        Check.fails("2 load", Check.IAE, () -> y.load());
        Check.same("2 the bytes stand in order", y.errorCode() + " " + y.errorPosition(), "1 23");
    }

    private static void p03Truncate() {
        MuseumCases x = new MuseumCases();
        Check.answers("3 truncate(0)", 0, () -> x.truncate(0));
        x.append(0x6d757365, 0x756d2031, 0x30203230, 0x3b217878, 0x78787878);
        Check.failsAndStays("3 truncate(-1)", Check.IOOBE, x, () -> x.truncate(-1));
        Check.failsAndStays("3 truncate(21)", Check.IOOBE, x, () -> x.truncate(21));
        Check.fails("3 truncate(MIN)", Check.IOOBE, () -> x.truncate(Check.MIN));
        Check.fails("3 truncate(MAX)", Check.IOOBE, () -> x.truncate(Check.MAX));
        Check.answers("3 truncate(20)", 20, () -> x.truncate(20));
        Check.answers("3 truncate(13)", 13, () -> x.truncate(13));
        Check.fails("3 truncate(14)", Check.IOOBE, () -> x.truncate(14));
        Check.answers("3 the text ends there", 0, () -> x.load());
    }

    private static void p04Load() {
        loads(0, "museum 0 0;");
        loads(0, "  \nmuseum0\n99 ;\n");
        loads(1, "museum 999 99;kind kind0point0 0point0001 0000;case case100 0 0;cassette case kind1 0;");
        loads(0, "museum 0 0;" + many(12, "season % 1000;"));
        loads(0, "museum 0 0;season 0 0;season 364 0;");
        loads(0, "museum 0 0;season 364 0;visitors 23 23 999;");
        loads(0, "museum 0 0;" + many(6, "visitors 0 23 999;"));
        loads(0, "museum 0 0;" + many(4, "kind # 1000 " + many(5, "point % 9999 ") + "point 1000 9999;"));
        loads(6, "museum 0 0;" + many(6, "case # 9999 1000 1000 safe 1000 1000;"));
        loads(1, "museum 0 0;kind abcdefgh 0 point 0 0 point 1 0;case abcdefgh 100 0 0;cassette abcdefgh abcdefgh 999 1000;");
        loads(6, KIND_K + many(6, "case # 100 0 0;") + many(6, "cassette # k 1 0;".repeat(5)));
        loads(0, "museum 0 0;" + " ".repeat(889));
        loads(1, "museum 0 0;kind season 0 point 0 0 point 1 0;case safe 100 0 0 safe 0 0;cassette safe season 1 0;");
    }

    private static void p04EverythingBeginsAnew() {
        MuseumCases x = Check.museum(BASE);
        x.announce(5);
        x.advance(36);
        x.announce(5);
        x.add(1, 0, 700, 7);
        x.add(0, 1, 700, 700);
        x.remove(1);
        x.remove(2);
        x.setLeak(0, 0);
        x.setSafe(0, 0, 0);
        x.save(0);
        x.save(1);
        Check.write(x, Check.bytes(BASE));
        Check.answers("4 load again", 2, () -> x.load());
        Check.same("4 everything begins anew", Check.all(x), Check.all(Check.museum(BASE)));
        Check.fails("4 load removes what was saved in 0", Check.NSEE, () -> Check.restore(x, 0));
        Check.fails("4 load removes what was saved in 1", Check.NSEE, () -> Check.restore(x, 1));
        Check.write(x, Check.bytes("museum 0 0;"));
        x.load();
        Check.same("4 a later text leaves nothing of the one before", Check.all(x), Check.all(new MuseumCases()));
        Check.answers("4 no visitors any more", 0, () -> x.visitors(11));
        Check.answers("4 no seasons any more", 500, () -> x.setPoint(0));
        Check.fails("4 no kinds any more", Check.IOOBE, () -> x.content(0, 0));
        Check.write(x, Check.bytes(BASE));
        x.load();
        x.advance(12);
        // ten hours at 400, then 405 and 412
        Check.answersDouble("4 the mean begins anew", 4817.0 / 12.0, () -> x.mean(0));
    }

    /** More than two texts, because what one of them wrote could show through a later one. */
    private static void p04TextAfterText() {
        MuseumCases x = new MuseumCases();
        for (int i = 0; i < 3; i++) {
            Check.write(x, Check.bytes("museum 900 9;" + many(12, "season % 1;") + "visitors 0 23 9;kind z 9 " + many(6, "point % 90% ")
                + ";kind y 9 point 0 1 point 1 2;case z 500 5 500 safe 100 200;case y 900 5 5;" + "cassette z z 99 99;".repeat(5)));
            Check.answers("4 a great text", 2, () -> x.load());
        }
        x.save(0);
        for (int i = 0; i < 3; i++) {
            Check.write(x, Check.bytes("museum 0 0;season 7 77;kind az 0 point 0 1 point 1 2;case az 100 0 0;cassette az az 999 999;"));
            Check.answers("4 a small text", 1, () -> x.load());
            Check.same("4 its state", Check.state(x), " 0 0 0 1 1 1 1 0 77 0 100 0 0 0 1 1 0 1000 0 -1 -1 1 0 0 0 1 0 0 999 1 1000");
            Check.answers("4 its set points", 77, () -> x.setPoint(12));
            Check.answers("4 its visitors", 0, () -> x.visitors(0));
            Check.answers("4 its isotherm", 2, () -> x.content(0, 500));
            Check.fails("4 nothing saved", Check.NSEE, () -> Check.restore(x, 0));
        }
    }

    /** What stood in the buffer behind the end of the text does not belong to it. */
    private static void cutTexts() {
        cut("museum 1234 0;", 10);
        cut("museumx 0 0;", 6);
        cut("museum 0 0;", 10);
        cut("museum 0 0;case a 100 0 0;", 15);
    }

    private static void cut(String text, int length) {
        MuseumCases x = new MuseumCases();
        Check.write(x, Check.bytes(text));
        x.truncate(length);
        Check.fails("5 load of a cut text", Check.IAE, () -> x.load());
        Check.same("5 the end of \"" + text + "\" at " + length, x.errorCode() + " at " + x.errorPosition(), "1 at " + length);
    }

    private static void code1InMuseumAndSeasons() {
        error(1, "^");
        error(1, "  \n ^");
        error(1, " ^museu");
        error(1, "^museums 0 0;");
        error(1, "^Museum 0 0;");
        error(1, "^7");
        error(1, "museum^");
        error(1, "museum  ^");
        error(1, "museum 0^;");
        error(1, "museum 0 0^");
        error(1, "museum 0 0^!");
        error(1, "museum 0 0^:");
        error(1, "museum 0 0;^;");
        error(1, "museum ^00000 0;");
        error(1, "museum 0 ^12345;");
        error(1, "museum ^-1 0;");
        error(1, "museum 0^,0;");
        error(1, "museum^\t0 0;");
        error(1, "museum 0 0; ^\u00e9");
        error(1, "museum 0 0;^\u0000");
        error(1, "museum 0 0;^museum 0 0;");
        error(1, "museum 0 0;^seasons 0 0;");
        error(1, "museum 0 0;^safe 0 0;");
        error(1, "museum 0 0;season ^a 0;");
        error(1, "museum 0 0;season 0 0 ^0;");
        error(1, "museum 0 0;visitors 0 0 0;^season 0 0;");
        error(1, "museum 0 0;visitors 0 0^;");
    }

    private static void code1InKindsAndCases() {
        error(1, "museum 0 0;kind k 0 point 0 0^;");
        error(1, "museum 0 0;kind k 0^;");
        error(1, "museum 0 0;kind k 0 ^points 0 0;");
        error(1, "museum 0 0;kind k 0 point 0 0 point 1 0 ^1;");
        error(1, "museum 0 0;kind ^abcdefghi 0 point 0 0 point 1 0;");
        error(1, "museum 0 0;kind ^7 0 point 0 0 point 1 0;");
        error(1, "museum 0 0;kind ^; 0 point 0 0 point 1 0;");
        error(1, KIND_K + "^visitors 0 0 0;");
        error(1, KIND_K + "^season 0 0;");
        error(1, "museum 0 0;case ^abcdefghi 100 0 0;");
        error(1, "museum 0 0;case a 100 0 0 safe 0^;");
        error(1, "museum 0 0;case a 100 0 0 ^save 0 0;");
        error(1, "museum 0 0;case a 100 0 0;^kind k 0 point 0 0 point 1 0;");
        error(1, "museum 0 0;case a 100 0 0;cassette ^abcdefghi k 1 0;");
        error(1, CASE_A + "cassette a ^abcdefghi 1 0;");
        error(1, CASE_A + "cassette ^1 k 1 0;");
        error(1, CASE_A + "cassette a ^1 k 0;");
        error(1, CASE_A + "cassette a k 1^;");
        error(1, CASE_A + "cassette a k 1 0^");
        error(1, CASE_A + "cassette a k 1 0;^case b 100 0 0;");
        error(1, "museum 0 0;" + many(6, "case # 100 0 0;") + "^kind k");
        error(1, KIND_K + many(6, "case # 100 0 0;") + many(6, "cassette # k 1 0;".repeat(5)) + "^kind");
    }

    private static void code2() {
        error(2, "museum ^1000 0;");
        error(2, "museum 999 ^100;");
        error(2, "museum 0 0;season ^365 0;");
        error(2, "museum 0 0;season 0 ^1001;");
        error(2, "museum 0 0;season 5 0;season ^5 0;");
        error(2, "museum 0 0;season 364 0;season ^364 0;");
        error(2, "museum 0 0;season 364 0;season ^365 0;");
        error(2, "museum 0 0;visitors ^24 24 0;");
        error(2, "museum 0 0;visitors 5 ^4 0;");
        error(2, "museum 0 0;visitors 5 ^24 0;");
        error(2, "museum 0 0;visitors 5 5 ^1000;");
        error(2, "museum 0 0;kind k ^1001 point 0 0 point 1 0;");
        error(2, "museum 0 0;kind k 0 point ^1001 0 point 1 0;");
        error(2, "museum 0 0;kind k 0 point 3 0 point ^3 0;");
        error(2, "museum 0 0;kind k 0 point 1000 0 point ^1001 0;");
        error(2, "museum 0 0;kind k 0 point 3 5 point 4 ^4;");
        error(2, "museum 0 0;case a ^99 0 0;");
        error(2, "museum 0 0;case a 100 ^1001 0;");
        error(2, "museum 0 0;case a 100 0 ^1001;");
        error(2, "museum 0 0;case a 100 0 0 safe ^1001 1001;");
        error(2, "museum 0 0;case a 100 0 0 safe 5 ^4;");
        error(2, "museum 0 0;case a 100 0 0 safe 5 ^1001;");
        error(2, CASE_A + "cassette a k ^0 0;");
        error(2, CASE_A + "cassette a k ^1000 0;");
        error(2, CASE_A + "cassette a k 1 ^1001;");
    }

    private static void code3() {
        error(3, KIND_K + "kind ^k 0 point 0 0 point 1 0;");
        error(3, KIND_K + "kind ^k ? point 0 0 point 1 0;");
        error(3, "museum 0 0;case a 100 0 0;case b 100 0 0;case ^a 100 0 0;");
        error(3, "museum 0 0;case azza 100 0 0;case azz 100 0 0;case zza 100 0 0;case ^azza 100 0 0;");
        error(3, "museum 0 0;cassette ^a k 1 0;");
        error(3, "museum 0 0;case a 100 0 0;cassette ^b k 1 0;");
        error(3, "museum 0 0;case a 100 0 0;cassette a ^k 1 0;");
        error(3, CASE_A + "cassette ^k k 1 0;");
        error(3, CASE_A + "cassette a ^a 1 0;");
        error(3, KIND_K + "case ab 100 0 0;cassette ^a k 1 0;");
        error(3, KIND_K + "case ab 100 0 0;cassette ^ba k 1 0;");
        error(3, KIND_K + "case aaaaaaaa 100 0 0;cassette ^aaaaaaa k 1 0;");
        error(3, KIND_K + many(6, "case # 100 0 0;") + many(6, "cassette # k 1 0;".repeat(5)) + "cassette ^g k 1 0;");
    }

    private static void code4() {
        error(4, "museum 0 0;" + many(12, "season % 0;") + "^season ? 0;");
        error(4, "museum 0 0;" + many(6, "visitors 0 0 0;") + "^visitors 0 0 0;");
        error(4, "museum 0 0;" + many(4, "kind # 0 point 0 0 point 1 0;") + "^kind ab 0 point 0 0 point 1 0;");
        error(4, "museum 0 0;" + many(6, "case # 100 0 0;") + "^case ab 100 0 0;");
        error(4, "museum 0 0;kind k 0 " + many(6, "point % 0 ") + "^point 99 0;");
        error(4, "museum 0 0;kind k 0 " + many(6, "point % 0 ") + "^point 0 0;");
        error(4, CASE_A + "cassette a k 1 0;".repeat(5) + "cassette ^a ? 1 0;");
        error(4, CASE_A + "case b 100 0 0;" + "cassette a k 1 0;".repeat(5) + "cassette b k 1 0;cassette ^a k 1 0;");
        error(4, KIND_K + many(6, "case # 100 0 0;") + many(6, "cassette # k 1 0;".repeat(5)) + "cassette ^f k 1 0;");
    }

    private static void p05p06ErrorCodeAndPosition() {
        code1InMuseumAndSeasons();
        code1InKindsAndCases();
        code2();
        code3();
        code4();
        cutTexts();
        MuseumCases x = new MuseumCases();
        Check.answers("5 no call yet", 0, () -> x.errorCode());
        Check.answers("6 no call yet", -1, () -> x.errorPosition());
        x.append(0, 0, 0, 0, 0);
        Check.answers("5 append sets no error", 0, () -> x.errorCode());
        Check.fails("5 load", Check.IAE, () -> x.load());
        Check.answers("5 code", 1, () -> x.errorCode());
        Check.answers("6 position", 0, () -> x.errorPosition());
        x.save(0);
        Check.write(x, Check.bytes("museum 0 ^"));
        Check.fails("5 load", Check.IAE, () -> x.load());
        Check.answers("6 position of the latest", 9, () -> x.errorPosition());
        x.restore(0);
        Check.answers("6 restore leaves the error", 9, () -> x.errorPosition());
        Check.write(x, Check.bytes("museum 0 0;"));
        x.load();
        Check.answers("5 no error any more", 0, () -> x.errorCode());
        Check.answers("6 no error any more", -1, () -> x.errorPosition());
    }

    public static void main(String[] args) {
        p01NewObject();
        p02Append();
        p03Truncate();
        p04Load();
        p04EverythingBeginsAnew();
        p04TextAfterText();
        p05p06ErrorCodeAndPosition();
        Check.end("TextTests");
    }
}
