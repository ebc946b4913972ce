/** Promises 7 to 35, each by itself, with answers that were worked out by hand from the document's words. */
public final class PromiseTests {
    private static final String BASE = "museum 500 1;season 0 400;season 100 600;visitors 10 11 50;visitors 11 12 7;"
        + "kind gel 500 point 200 100 point 800 400;kind wool 1000 point 0 0 point 1000 1000;"
        + "case a 1000 100 400 safe 350 410;case b 500 0 500;cassette a gel 100 400;";
    private static final String LINE = "kind k 500 point 0 0 point 1000 1000;";
    /** One case without leaks, with a cassette that is too dry for it: 500 units at 1000. */
    private static final String DRY = "museum 0 0;" + LINE + "case c 1000 0 600;cassette c k 500 200;";
    /** A case that goes from 500 to 550, 595, 635 and so on. */
    private static final String DAMP = "museum 0 0;season 0 1000;" + LINE + "case c 1000 100 500 safe 450 550;";

    private PromiseTests() {
    }

    private static void p07Report() {
        MuseumCases x = Check.museum(BASE);
        int[] first = {0, 0, 0, 2, 2, 1, 1, 0, 400, 0};
        for (int i = 0; i < first.length; i++) {
            int what = i;
            Check.answers("7 report(" + what + ")", first[what], () -> x.report(what));
        }
        Check.failsAndStays("7 report(10)", Check.IAE, x, () -> x.report(10));
        Check.fails("7 report(-1)", Check.IAE, () -> x.report(-1));
        Check.fails("7 report(MIN)", Check.IAE, () -> x.report(Check.MIN));
        Check.fails("7 report(MAX)", Check.IAE, () -> x.report(Check.MAX));
        x.announce(3);
        x.advance(24 + 12);
        x.announce(4);
        x.add(1, 1, 1, 1);
        // at 10 o'clock 50, then 25 + 57; now it is 12 o'clock on day 1, with the set point 402
        int[] later = {36, 1, 12, 2, 2, 2, 2, 82, 484, 4};
        for (int i = 0; i < later.length; i++) {
            int what = i;
            Check.answers("7 report(" + what + ") later", later[what], () -> x.report(what));
        }
        MuseumCases y = Check.museum("museum 999 99;season 0 900;visitors 0 23 999;");
        y.advance(1);
        Check.answers("7 the excess is not limited", 98901, () -> y.report(7));
        Check.answers("7 the room is at most saturated", 1000, () -> y.report(8));
        y.advance(1999);
        Check.answers("7 2000 hours are 83 days and 8 hours", 83, () -> y.report(1));
        Check.answers("7 hour of the day", 8, () -> y.report(2));
        for (int i = 0; i < 4; i++) {
            y.advance(2000);
        }
        Check.answers("7 a year has 365 days", 416 - 365, () -> y.report(1));
    }

    private static void p08SetPoint() {
        MuseumCases x = Check.museum(BASE);
        // 600 - 200 * 1 / 265 stays 600, for the quotient is rounded toward 0
        int[][] due = {{0, 400}, {1, 402}, {50, 500}, {99, 598}, {100, 600}, {101, 600}, {102, 599}, {364, 401}};
        for (int[] d : due) {
            Check.answersAndStays("8 setPoint(" + d[0] + ")", d[1], x, () -> x.setPoint(d[0]));
        }
        for (int day : new int[] {-1, 365, Check.MIN, Check.MAX}) {
            Check.failsAndStays("8 setPoint(" + day + ")", Check.IAE, x, () -> x.setPoint(day));
        }
        MuseumCases one = Check.museum("museum 0 0;season 200 333;");
        Check.answers("8 one season, day 0", 333, () -> one.setPoint(0));
        Check.answers("8 one season, day 200", 333, () -> one.setPoint(200));
        Check.answers("8 one season, day 364", 333, () -> one.setPoint(364));
        MuseumCases three = Check.museum("museum 0 0;season 10 100;season 20 107;season 360 0;");
        // from day 360 to day 375 from 0 to 100; day 5 is 10 days behind day 360 of last year
        int[][] line = {{0, 33}, {5, 66}, {9, 93}, {10, 100}, {13, 102}, {19, 106}, {20, 107}, {21, 107}, {23, 107},
            {24, 106}, {359, 1}, {360, 0}, {364, 26}};
        for (int[] d : line) {
            Check.answers("8 three seasons, day " + d[0], d[1], () -> three.setPoint(d[0]));
        }
        MuseumCases ends = Check.museum("museum 0 0;season 0 0;season 364 1000;");
        Check.answers("8 the last day", 1000, () -> ends.setPoint(364));
        Check.answers("8 the first day", 0, () -> ends.setPoint(0));
        Check.answers("8 none", 500, () -> Check.museum("museum 0 0;").setPoint(77));
    }

    private static void p09Visitors() {
        MuseumCases x = Check.museum(BASE);
        int[][] due = {{0, 0}, {9, 0}, {10, 50}, {11, 57}, {12, 7}, {13, 0}, {23, 0}};
        for (int[] d : due) {
            Check.answersAndStays("9 visitors(" + d[0] + ")", d[1], x, () -> x.visitors(d[0]));
        }
        x.announce(9);
        Check.answers("9 without groups", 50, () -> x.visitors(10));
        for (int hour : new int[] {-1, 24, Check.MIN, Check.MAX}) {
            Check.failsAndStays("9 visitors(" + hour + ")", Check.IAE, x, () -> x.visitors(hour));
        }
        MuseumCases y = Check.museum("museum 0 0;" + "visitors 0 23 999;".repeat(6));
        Check.answers("9 six statements, first hour", 5994, () -> y.visitors(0));
        Check.answers("9 six statements, last hour", 5994, () -> y.visitors(23));
    }

    private static void p10Content() {
        MuseumCases x = Check.museum(BASE);
        int[][] due = {{Check.MIN, 100}, {-1, 100}, {0, 100}, {200, 100}, {201, 100}, {202, 101}, {500, 250},
            {799, 399}, {800, 400}, {801, 400}, {5000, 400}, {Check.MAX, 400}};
        for (int[] d : due) {
            Check.answersAndStays("10 content(0, " + d[0] + ")", d[1], x, () -> x.content(0, d[0]));
        }
        Check.answers("10 content(1, 777)", 777, () -> x.content(1, 777));
        for (int kind : new int[] {-1, 2, Check.MIN, Check.MAX}) {
            Check.failsAndStays("10 content(" + kind + ", 0)", Check.IOOBE, x, () -> x.content(kind, 0));
        }
        MuseumCases y = Check.museum("museum 0 0;kind k 0 point 0 5 point 10 5 point 11 9 point 14 10 point 999 10 point 1000 9999;");
        int[][] steps = {{0, 5}, {9, 5}, {10, 5}, {11, 9}, {12, 9}, {13, 9}, {14, 10}, {500, 10}, {999, 10}, {1000, 9999}};
        for (int[] d : steps) {
            Check.answers("10 six points at " + d[0], d[1], () -> y.content(0, d[0]));
        }
    }

    private static void p11Announce() {
        MuseumCases x = Check.museum(BASE);
        Check.answers("11 announce(1)", 1, () -> x.announce(1));
        Check.answers("11 announce(999)", 1000, () -> x.announce(999));
        for (int visitors : new int[] {0, -1, 1000, Check.MIN, Check.MAX}) {
            Check.failsAndStays("11 announce(" + visitors + ")", Check.IAE, x, () -> x.announce(visitors));
        }
        for (int i = 0; i < 4; i++) {
            x.announce(999);
        }
        Check.failsAndStays("11 announce(5) behind 4996", Check.ISE, x, () -> x.announce(5));
        Check.fails("11 out of range comes first", Check.IAE, () -> x.announce(1000));
        Check.answers("11 announce(4) behind 4996", 5000, () -> x.announce(4));
        Check.failsAndStays("11 announce(1) behind 5000", Check.ISE, x, () -> x.announce(1));
        x.advance(1);
        Check.answers("11 they came", 5000, () -> x.report(7));
        Check.answers("11 they are gone", 0, () -> x.report(9));
        x.advance(1);
        Check.answers("11 half of the excess stays", 2500, () -> x.report(7));
        Check.answers("11 announce again", 7, () -> x.announce(7));
    }

    private static void p12DisplayCase() {
        MuseumCases x = Check.museum(BASE);
        int[][] first = {{1000, 100, 400, 400, 1, 20, 350, 410, 0, -1, -1}, {500, 0, 250, 500, 0, 0, 0, 1000, 0, -1, -1}};
        for (int i = 0; i < 22; i++) {
            int n = i / 11;
            int what = i % 11;
            Check.answers("12 displayCase(" + n + ", " + what + ")", first[n][what], () -> x.displayCase(n, what));
        }
        Check.failsAndStays("12 displayCase(2, 0)", Check.IOOBE, x, () -> x.displayCase(2, 0));
        Check.fails("12 displayCase(-1, 0)", Check.IOOBE, () -> x.displayCase(-1, 0));
        Check.fails("12 displayCase(MAX, 11)", Check.IOOBE, () -> x.displayCase(Check.MAX, 11));
        Check.fails("12 displayCase(0, 11)", Check.IAE, () -> x.displayCase(0, 11));
        Check.fails("12 displayCase(0, -1)", Check.IAE, () -> x.displayCase(0, -1));
        x.advance(10);
        // the room has 450, 482, 448 and 424: 5, 7, 3 and 0 units come in, and the cassette stays at 20
        Check.answers("12 four hours, two of them unsafe", 3, () -> x.advance(4));
        int[] later = {1000, 100, 415, 415, 1, 20, 350, 410, 3, 400, 415};
        for (int i = 0; i < later.length; i++) {
            int what = i;
            Check.answers("12 displayCase(0, " + what + ") later", later[what], () -> x.displayCase(0, what));
        }
        MuseumCases y = Check.museum("museum 0 0;case c 300 0 1000;case d 300 0 5;");
        Check.answers("12 air", 300, () -> y.displayCase(0, 2));
        Check.answers("12 300 * 5 / 1000 units", 1, () -> y.displayCase(1, 2));
        Check.answers("12 1000 * 1 / 300", 3, () -> y.displayCase(1, 3));
    }

    private static void p13Balance() {
        MuseumCases x = Check.museum(BASE);
        x.advance(14);
        x.add(0, 1, 100, 500);
        x.add(0, 0, 200, 0);
        x.remove(0);
        // in 50 + 20, out 20; by leaks 15; now 415 + 50 + 20
        long[] due = {420, 15, 70, 20, 485};
        for (int i = 0; i < due.length; i++) {
            int what = i;
            Check.same("13 balance(0, " + what + ")", x.balance(0, what), due[what]);
        }
        Check.same("13 balance(1, 0)", x.balance(1, 0), 250L);
        Check.failsAndStays("13 balance(2, 0)", Check.IOOBE, x, () -> x.balance(2, 0));
        Check.fails("13 balance(-1, 9)", Check.IOOBE, () -> x.balance(-1, 9));
        Check.failsAndStays("13 balance(0, 5)", Check.IAE, x, () -> x.balance(0, 5));
        Check.fails("13 balance(0, -1)", Check.IAE, () -> x.balance(0, -1));
        x.setLeak(0, 1000);
        x.advance(300);
        x.open(0);
        x.exchange(1, 900);
        x.advance(99);
        Check.same("13 nothing is lost", x.balance(0, 4), x.balance(0, 0) + x.balance(0, 1) + x.balance(0, 2) - x.balance(0, 3));
        MuseumCases y = Check.museum("museum 0 0;season 0 0;case c 1000 100 500;");
        y.advance(1);
        Check.same("13 more went out", y.balance(0, 1), -50L);
    }

    private static void p14Recorded() {
        MuseumCases x = Check.museum(BASE);
        Check.failsAndStays("14 recorded(0, 0) at hour 0", Check.NSEE, x, () -> x.recorded(0, 0));
        x.advance(13);
        int[] due = {415, 412, 405, 400};
        for (int i = 0; i < due.length; i++) {
            int hours = i;
            Check.answersAndStays("14 recorded(0, " + hours + ")", due[hours], x, () -> x.recorded(0, hours));
        }
        Check.answers("14 recorded(0, 12)", 400, () -> x.recorded(0, 12));
        Check.failsAndStays("14 recorded(0, 13)", Check.NSEE, x, () -> x.recorded(0, 13));
        Check.fails("14 recorded(0, 24)", Check.IAE, () -> x.recorded(0, 24));
        Check.fails("14 recorded(0, -1)", Check.IAE, () -> x.recorded(0, -1));
        Check.fails("14 recorded(2, 24)", Check.IOOBE, () -> x.recorded(2, 24));
        Check.fails("14 recorded(-1, 23)", Check.IOOBE, () -> x.recorded(-1, 23));
        x.advance(11);
        Check.answers("14 recorded(0, 23) of 24 hours", 400, () -> x.recorded(0, 23));
        x.advance(10);
        Check.answers("14 recorded(0, 23) of 34 hours is that of hour 10", 405, () -> x.recorded(0, 23));
        Check.fails("14 recorded(0, 24) of 34 hours", Check.IAE, () -> x.recorded(0, 24));
    }

    private static void p15Swing() {
        MuseumCases x = Check.museum(DRY);
        Check.failsAndStays("15 swing(0) at hour 0", Check.NSEE, x, () -> x.swing(0));
        Check.fails("15 swing(1)", Check.IOOBE, () -> x.swing(1));
        Check.fails("15 swing(-1)", Check.IOOBE, () -> x.swing(-1));
        x.advance(1);
        Check.answersAndStays("15 one hour", 0, x, () -> x.swing(0));
        x.advance(2);
        Check.answersAndStays("15 500, 475, 469", 31, x, () -> x.swing(0));
        x.advance(21);
        Check.answers("15 24 hours", 500 - x.recorded(0, 0), () -> x.swing(0));
        x.advance(1);
        Check.answers("15 the first hour does not count any more", 475 - x.recorded(0, 0), () -> x.swing(0));
        x.advance(1);
        Check.answers("15 nor the second one", 469 - x.recorded(0, 0), () -> x.swing(0));
        x.advance(22);
        Check.answers("15 at rest", 0, () -> x.swing(0));
    }

    private static void p16Mean() {
        MuseumCases x = Check.museum(DRY);
        Check.failsAndStays("16 mean(0) at hour 0", Check.NSEE, x, () -> x.mean(0));
        Check.fails("16 mean(1)", Check.IOOBE, () -> x.mean(1));
        Check.fails("16 mean(-1)", Check.IOOBE, () -> x.mean(-1));
        x.advance(1);
        Check.answersDouble("16 500", 500.0, () -> x.mean(0));
        x.advance(2);
        Check.answersDouble("16 500, 475, 469", 1444.0 / 3.0, () -> x.mean(0));
        x.advance(97);
        // 500 + 475 + 469 + 468 + 96 * 467
        Check.answersDouble("16 all 100 hours, not only 24", 467.44, () -> x.mean(0));
    }

    private static void p17Buffering() {
        MuseumCases x = Check.museum(DRY);
        Check.answersDouble("17 100 of 700", (double) (100f / 700f), () -> x.buffering(0));
        Check.same("17 it is a float's value", x.buffering(0) != 100.0 / 700.0, true);
        Check.fails("17 buffering(1)", Check.IOOBE, () -> x.buffering(1));
        Check.fails("17 buffering(-1)", Check.IOOBE, () -> x.buffering(-1));
        x.remove(0);
        Check.answersDouble("17 no cassettes", 0.0, () -> x.buffering(0));
        MuseumCases y = Check.museum("museum 0 0;" + LINE + "case c 1000 0 0;cassette c k 999 0;");
        Check.failsAndStays("17 no moisture", Check.NSEE, y, () -> y.buffering(0));
        y.add(0, 0, 1, 1000);
        Check.answersDouble("17 all in the cassettes", 1.0, () -> y.buffering(0));
    }

    private static void p18SetLeak() {
        MuseumCases x = Check.museum(BASE);
        Check.answers("18 setLeak(0, 1000)", 100, () -> x.setLeak(0, 1000));
        Check.answers("18 setLeak(0, 0)", 1000, () -> x.setLeak(0, 0));
        Check.answers("18 the leak", 0, () -> x.displayCase(0, 1));
        Check.answers("18 the other leak", 0, () -> x.displayCase(1, 1));
        Check.failsAndStays("18 setLeak(0, 1001)", Check.IAE, x, () -> x.setLeak(0, 1001));
        Check.failsAndStays("18 setLeak(0, -1)", Check.IAE, x, () -> x.setLeak(0, -1));
        Check.failsAndStays("18 setLeak(2, 1001)", Check.IOOBE, x, () -> x.setLeak(2, 1001));
        Check.fails("18 setLeak(-1, 0)", Check.IOOBE, () -> x.setLeak(-1, 0));
        x.advance(20);
        Check.answers("18 nothing leaks", 400, () -> x.displayCase(0, 2));
        Check.answers("18 setLeak(1, 1000)", 0, () -> x.setLeak(1, 1000));
        x.advance(1);
        // hour 20: the excess 24, 12, 6, 3, 1, 0 has gone
        Check.answers("18 all air is exchanged", 200, () -> x.displayCase(1, 2));
    }

    private static void p19SetSafe() {
        MuseumCases x = Check.museum(BASE);
        x.advance(14);
        Check.answers("19 unsafe hours so far", 3, () -> x.displayCase(0, 8));
        Check.setSafe(x, 0, 0, 1000);
        Check.answers("19 they stay", 3, () -> x.displayCase(0, 8));
        Check.setSafe(x, 0, 415, 415);
        Check.answers("19 lowest", 415, () -> x.displayCase(0, 6));
        Check.answers("19 greatest", 415, () -> x.displayCase(0, 7));
        Check.answers("19 the bounds are safe", 0, () -> x.advance(1));
        Check.setSafe(x, 0, 416, 500);
        Check.answers("19 below the lowest", 1, () -> x.advance(1));
        // in this hour -12 / 10 leaks, and 414 stay
        Check.setSafe(x, 0, 300, 413);
        Check.answers("19 above the greatest", 1, () -> x.advance(1));
        Check.answers("19 unsafe hours", 5, () -> x.displayCase(0, 8));
        int[][] wrong = {{-1, 5}, {1001, 1001}, {5, 4}, {5, 1001}, {5, -1}, {Check.MIN, Check.MAX}};
        for (int[] w : wrong) {
            Check.failsAndStays("19 setSafe(0, " + w[0] + ", " + w[1] + ")", Check.IAE, x, () -> Check.setSafe(x, 0, w[0], w[1]));
        }
        Check.failsAndStays("19 setSafe(2, 5, 4)", Check.IOOBE, x, () -> Check.setSafe(x, 2, 5, 4));
        Check.fails("19 setSafe(-1, 5, 6)", Check.IOOBE, () -> Check.setSafe(x, -1, 5, 6));
    }

    private static void p20Open() {
        MuseumCases x = Check.museum(BASE);
        Check.answersAndStays("20 open(0) in a room like it", 0, x, () -> x.open(0));
        Check.answers("20 open(1)", -50, () -> x.open(1));
        Check.same("20 it counts as a leak", x.balance(1, 1), -50L);
        Check.same("20 the balance", x.balance(1, 4), 200L);
        x.advance(11);
        // the excess is 50, in the room of day 0
        Check.answers("20 open(0) at 450", 45, () -> x.open(0));
        Check.same("20 all leaks", x.balance(0, 1), 50L);
        Check.answers("20 nothing is recorded", 405, () -> x.recorded(0, 0));
        Check.answers("20 cassettes stay", 20, () -> x.displayCase(0, 5));
        Check.failsAndStays("20 open(2)", Check.IOOBE, x, () -> x.open(2));
        Check.fails("20 open(-1)", Check.IOOBE, () -> x.open(-1));
        MuseumCases y = Check.museum("museum 0 0;season 0 333;case c 109 0 0;");
        Check.answers("20 109 * 333 / 1000", 36, () -> y.open(0));
    }

    private static void p21Cassette() {
        MuseumCases x = Check.museum(BASE + "cassette b wool 333 500;cassette a wool 999 1000;");
        int[][] due = {{0, 0, 100, 20, 419}, {2, 1, 999, 999, 1000}};
        for (int i = 0; i < 10; i++) {
            int index = i / 5;
            int what = i % 5;
            Check.answersAndStays("21 cassette(0, " + index + ", " + what + ")", due[index][what], x, () -> x.cassette(0, index, what));
        }
        // 333 * 500 / 1000 = 166, which it has up to 501: 333 * 501 / 1000 = 166, and 333 * 502 / 1000 = 167
        Check.answers("21 moisture", 166, () -> x.cassette(1, 0, 3));
        Check.answers("21 its own humidity", 501, () -> x.cassette(1, 0, 4));
        int[][] none = {{2, 0}, {-1, 0}, {0, 2}, {0, -1}, {1, 1}, {1, 5}, {Check.MAX, 0}, {0, Check.MIN}};
        for (int[] w : none) {
            Check.failsAndStays("21 cassette(" + w[0] + ", " + w[1] + ", 9)", Check.IOOBE, x, () -> x.cassette(w[0], w[1], 9));
        }
        Check.fails("21 cassette(0, 0, 5)", Check.IAE, () -> x.cassette(0, 0, 5));
        Check.fails("21 cassette(0, 0, -1)", Check.IAE, () -> x.cassette(0, 0, -1));
        MuseumCases y = Check.museum("museum 0 0;kind k 1000 point 0 1000 point 500 1000 point 501 2000;case c 100 0 5;"
            + "case d 100 0 0;case e 100 1000 900;cassette c k 1 0;cassette d k 1 501;cassette e k 1 500;");
        Check.answers("21 as wet up to the step", 500, () -> y.cassette(0, 0, 4));
        Check.answers("21 as wet as can be", 1000, () -> y.cassette(1, 0, 4));
        MuseumCases z = Check.museum("museum 0 0;kind k 500 point 0 100 point 1000 100;case c 100 0 0;cassette c k 10 0;");
        Check.answers("21 exactly its moisture everywhere", 1000, () -> z.cassette(0, 0, 4));
    }

    private static void p22CaseOf() {
        MuseumCases x = Check.museum(BASE + "cassette b wool 333 500;");
        Check.answersAndStays("22 caseOf(0)", 0, x, () -> x.caseOf(0));
        Check.answersAndStays("22 caseOf(1)", 1, x, () -> x.caseOf(1));
        for (int serial : new int[] {2, -1, Check.MIN, Check.MAX}) {
            Check.failsAndStays("22 caseOf(" + serial + ")", Check.NSEE, x, () -> x.caseOf(serial));
        }
        x.add(1, 0, 1, 1);
        Check.answers("22 caseOf(2)", 1, () -> x.caseOf(2));
        x.remove(1);
        Check.fails("22 caseOf(1) without it", Check.NSEE, () -> x.caseOf(1));
        Check.answers("22 caseOf(2) in its new place", 1, () -> x.caseOf(2));
    }

    private static void p23Add() {
        MuseumCases x = Check.museum(BASE);
        Check.answers("23 add", 1, () -> x.add(1, 0, 200, 500));
        Check.answers("23 its moisture", 50, () -> x.cassette(1, 0, 3));
        Check.answers("23 add the least", 2, () -> x.add(1, 1, 1, 0));
        Check.answers("23 add the most", 3, () -> x.add(1, 1, 999, 1000));
        Check.same("23 what came in", x.balance(1, 2), 50L + 0L + 999L);
        Check.same("23 moisture at loading stays", x.balance(1, 0), 250L);
        Check.answers("23 cassettes", 4, () -> x.report(5));
        Check.answers("23 the order", 3, () -> x.cassette(1, 2, 0));
        Check.failsAndStays("23 add(2, 0, 0, 0)", Check.IOOBE, x, () -> x.add(2, 0, 0, 0));
        Check.failsAndStays("23 add(-1, 0, 1, 0)", Check.IOOBE, x, () -> x.add(-1, 0, 1, 0));
        Check.failsAndStays("23 add(0, 2, 0, 0)", Check.IOOBE, x, () -> x.add(0, 2, 0, 0));
        Check.failsAndStays("23 add(0, -1, 1, 0)", Check.IOOBE, x, () -> x.add(0, -1, 1, 0));
        int[][] wrong = {{0, 0}, {1000, 0}, {1, -1}, {1, 1001}, {Check.MIN, 5}, {5, Check.MAX}};
        for (int[] w : wrong) {
            Check.failsAndStays("23 add(0, 0, " + w[0] + ", " + w[1] + ")", Check.IAE, x, () -> x.add(0, 0, w[0], w[1]));
        }
        x.add(1, 0, 1, 1);
        x.add(1, 0, 1, 1);
        Check.failsAndStays("23 a sixth one", Check.ISE, x, () -> x.add(1, 0, 1, 1));
        Check.fails("23 out of range comes first", Check.IAE, () -> x.add(1, 0, 0, 1));
        Check.fails("23 no such kind comes first", Check.IOOBE, () -> x.add(1, 2, 0, 1));
        Check.answers("23 the other case has room", 6, () -> x.add(0, 0, 1, 1));
    }

    private static void p24Remove() {
        MuseumCases x = Check.museum(BASE + "cassette a wool 100 500;cassette a wool 100 700;cassette a gel 100 0;");
        Check.answers("24 remove(1)", 50, () -> x.remove(1));
        Check.answers("24 the next one moved up", 2, () -> x.cassette(0, 1, 0));
        Check.answers("24 the last one too", 3, () -> x.cassette(0, 2, 0));
        Check.answers("24 with its moisture", 10, () -> x.cassette(0, 2, 3));
        Check.answers("24 cassettes", 3, () -> x.displayCase(0, 4));
        Check.same("24 what went out", x.balance(0, 3), 50L);
        for (int serial : new int[] {1, 4, -1, Check.MIN, Check.MAX}) {
            Check.failsAndStays("24 remove(" + serial + ")", Check.NSEE, x, () -> x.remove(serial));
        }
        Check.answers("24 remove(3)", 10, () -> x.remove(3));
        Check.answers("24 remove(0)", 20, () -> x.remove(0));
        Check.answers("24 remove(2)", 70, () -> x.remove(2));
        Check.same("24 all went out", x.balance(0, 3), 150L);
        Check.answers("24 serial numbers go on", 4, () -> x.add(0, 0, 1, 1));
    }

    private static void p25Move() {
        MuseumCases x = Check.museum(BASE + "cassette b wool 100 500;cassette a wool 100 700;");
        Check.answers("25 move(0, 1)", 0, () -> x.move(0, 1));
        Check.answers("25 it comes last there", 0, () -> x.cassette(1, 1, 0));
        Check.answers("25 the other one moves up", 2, () -> x.cassette(0, 0, 0));
        Check.answers("25 moisture", 20, () -> x.cassette(1, 1, 3));
        Check.answers("25 mass", 100, () -> x.cassette(1, 1, 2));
        Check.same("25 out of a", x.balance(0, 3), 20L);
        Check.same("25 into b", x.balance(1, 2), 20L);
        Check.answers("25 no new serial number", 3, () -> x.report(6));
        Check.failsAndStays("25 it is there", Check.ISE, x, () -> x.move(0, 1));
        Check.failsAndStays("25 move(9, 9)", Check.NSEE, x, () -> x.move(9, 9));
        Check.failsAndStays("25 move(-1, 0)", Check.NSEE, x, () -> x.move(-1, 0));
        Check.failsAndStays("25 move(0, 2)", Check.IOOBE, x, () -> x.move(0, 2));
        Check.failsAndStays("25 move(0, -1)", Check.IOOBE, x, () -> x.move(0, -1));
        for (int i = 0; i < 4; i++) {
            x.add(0, 0, 1, 1);
        }
        Check.failsAndStays("25 a is full", Check.ISE, x, () -> x.move(0, 0));
        Check.failsAndStays("25 out of a full one into itself", Check.ISE, x, () -> x.move(2, 0));
        Check.answers("25 out of a full one", 0, () -> x.move(2, 1));
        Check.answers("25 and back", 1, () -> x.move(1, 0));
    }

    private static void p26Exchange() {
        MuseumCases x = Check.museum(BASE + "cassette a wool 100 500;");
        Check.answers("26 exchange(0, 800)", 2, () -> x.exchange(0, 800));
        int[] due = {2, 0, 100, 40, 1000};
        for (int i = 0; i < due.length; i++) {
            int what = i;
            Check.answers("26 the new one, " + what, due[what], () -> x.cassette(0, 0, what));
        }
        Check.answers("26 the other one stays", 1, () -> x.cassette(0, 1, 0));
        Check.same("26 what went out", x.balance(0, 3), 20L);
        Check.same("26 what came in", x.balance(0, 2), 40L);
        Check.failsAndStays("26 the old one is gone", Check.NSEE, x, () -> x.exchange(0, 800));
        Check.failsAndStays("26 exchange(9, 1001)", Check.NSEE, x, () -> x.exchange(9, 1001));
        Check.failsAndStays("26 exchange(2, 1001)", Check.IAE, x, () -> x.exchange(2, 1001));
        Check.failsAndStays("26 exchange(2, -1)", Check.IAE, x, () -> x.exchange(2, -1));
        Check.answers("26 exchange(2, 0)", 3, () -> x.exchange(2, 0));
        Check.answers("26 exchange(1, 1000)", 4, () -> x.exchange(1, 1000));
        Check.answers("26 in its place", 4, () -> x.cassette(0, 1, 0));
        Check.answers("26 cassettes", 2, () -> x.report(5));
    }

    private static void p27Advance() {
        MuseumCases x = Check.museum(BASE.replace("cassette", "case c 100 1000 0 safe 1000 1000;cassette"));
        for (int hours : new int[] {0, -1, 2001, Check.MIN, Check.MAX}) {
            Check.failsAndStays("27 advance(" + hours + ")", Check.IAE, x, () -> x.advance(hours));
        }
        Check.answers("27 unsafe hours of all cases", 14 + 3, () -> x.advance(14));
        Check.answers("27 of case 2", 14, () -> x.displayCase(2, 8));
        for (int i = 0; i < 49; i++) {
            x.advance(2000);
        }
        Check.answers("27 the time", 98014, () -> x.report(0));
        Check.failsAndStays("27 the time would be 100000", Check.ISE, x, () -> x.advance(1986));
        Check.fails("27 out of range comes first", Check.IAE, () -> x.advance(2001));
        x.advance(1985);
        Check.answers("27 the last hour", 99999, () -> x.report(0));
        Check.failsAndStays("27 no hour more", Check.ISE, x, () -> x.advance(1));
        Check.answers("27 predictions go on", 500, () -> x.humidityIn(1, 2000));
        sorption();
        limits();
    }

    /** Step 3: half of what is missing, rounded toward 0, hour by hour, and the same on the way back. */
    private static void sorption() {
        MuseumCases x = Check.museum(DRY);
        int[][] due = {{500, 200}, {475, 225}, {469, 231}, {468, 232}, {467, 233}, {467, 233}};
        for (int[] d : due) {
            x.advance(1);
            Check.same("27 air and cassette", x.displayCase(0, 2) + " " + x.cassette(0, 0, 3), d[0] + " " + d[1]);
        }
        MuseumCases y = Check.museum("museum 0 0;" + LINE + "case c 1000 0 200;cassette c k 500 600;cassette c k 100 200;");
        // the first one gives (100 - 300) / 2; the second one then takes (30 - 20) / 2 at 300
        y.advance(1);
        Check.same("27 in the order of the cassettes", y.displayCase(0, 2) + " " + y.cassette(0, 0, 3) + " " + y.cassette(0, 1, 3), "295 200 25");
        // (147 - 200) / 2 is -26, and (32 - 25) / 2 is 3, at 321
        y.advance(1);
        Check.same("27 rounded toward 0", y.displayCase(0, 2) + " " + y.cassette(0, 0, 3) + " " + y.cassette(0, 1, 3), "318 174 28");
    }

    private static void limits() {
        MuseumCases x = Check.museum("museum 0 0;kind k 1000 point 0 0 point 10 9999;case c 100 0 10;cassette c k 999 0;");
        x.advance(1);
        Check.same("27 at most what the air contains", x.displayCase(0, 2) + " " + x.cassette(0, 0, 3), "0 1");
        MuseumCases y = Check.museum("museum 0 0;season 0 0;kind k 1000 point 0 0 point 1000 9999;case c 100 0 0 safe 0 1000;cassette c k 999 1000;");
        Check.answers("27 far beyond saturation is unsafe", 1, () -> y.advance(1));
        Check.answers("27 humidity", 99890, () -> y.displayCase(0, 10));
        y.remove(0);
        y.setLeak(0, 999);
        y.advance(1);
        // -9989000 * 999 / 1000000 = -9979.011
        Check.answers("27 the leak of very wet air", 10, () -> y.displayCase(0, 2));
        MuseumCases z = Check.museum("museum 999 99;season 0 0;visitors 0 23 999;");
        z.advance(3);
        // 98901, 98802 + 98901, 197505 + 98901
        Check.answers("27 the excess", 296406, () -> z.report(7));
        z.advance(2000);
        z.advance(2000);
        z.advance(2000);
        Check.same("27 a great excess", z.report(7) > 98000000 && z.report(7) < 98901000, true);
        MuseumCases w = Check.museum("museum 0 0;season 0 500;case c 999 7 501;");
        w.advance(1);
        Check.answers("27 a small leak is rounded toward 0", 500, () -> w.displayCase(0, 2));
    }

    private static void p28RoomIn() {
        MuseumCases x = Check.museum(BASE);
        // hour 24 is the first one with the set point of day 1
        int[][] due = {{1, 400}, {10, 400}, {11, 450}, {12, 482}, {13, 448}, {24, 400}, {25, 402}, {35, 452}, {2000, 566}};
        for (int[] d : due) {
            Check.answersAndStays("28 roomIn(" + d[0] + ")", d[1], x, () -> x.roomIn(d[0]));
        }
        x.announce(100);
        Check.answersAndStays("28 with the group", 500, x, () -> x.roomIn(1));
        Check.answersAndStays("28 an hour later", 450, x, () -> x.roomIn(2));
        for (int hours : new int[] {0, -1, 2001, Check.MIN, Check.MAX}) {
            Check.failsAndStays("28 roomIn(" + hours + ")", Check.IAE, x, () -> x.roomIn(hours));
        }
        x.announce(999);
        Check.answers("28 at most 1000", 1000, () -> x.roomIn(1));
        MuseumCases y = Check.museum("museum 0 0;season 0 100;season 364 1000;");
        for (int i = 0; i < 4; i++) {
            y.advance(2000);
        }
        Check.answers("28 the last hour of the year", 1000, () -> y.roomIn(760));
        Check.answers("28 the first hour of the next year", 100, () -> y.roomIn(761));
    }

    private static void p29HumidityIn() {
        MuseumCases x = Check.museum(BASE);
        int[][] due = {{0, 400}, {1, 400}, {10, 400}, {11, 405}, {12, 412}, {13, 415}};
        for (int[] d : due) {
            Check.answersAndStays("29 humidityIn(0, " + d[0] + ")", d[1], x, () -> x.humidityIn(0, d[0]));
        }
        x.announce(999);
        Check.answersAndStays("29 humidityIn(0, 1) with a group", 459, x, () -> x.humidityIn(0, 1));
        Check.answers("29 humidityIn(1, 2000)", 500, () -> x.humidityIn(1, 2000));
        Check.failsAndStays("29 humidityIn(2, 2001)", Check.IOOBE, x, () -> x.humidityIn(2, 2001));
        Check.fails("29 humidityIn(-1, 0)", Check.IOOBE, () -> x.humidityIn(-1, 0));
        Check.failsAndStays("29 humidityIn(0, 2001)", Check.IAE, x, () -> x.humidityIn(0, 2001));
        Check.failsAndStays("29 humidityIn(0, -1)", Check.IAE, x, () -> x.humidityIn(0, -1));
        MuseumCases y = Check.museum(DRY);
        int[] dry = {600, 500, 475, 469, 468, 467, 467};
        for (int i = 0; i < dry.length; i++) {
            int hours = i;
            Check.answersAndStays("29 dry, " + hours, dry[hours], y, () -> y.humidityIn(0, hours));
        }
    }

    private static void p30UnsafeIn() {
        MuseumCases x = Check.museum(BASE);
        Check.answersAndStays("30 unsafeIn(0)", 12, x, () -> x.unsafeIn(0));
        Check.answersAndStays("30 unsafeIn(1)", -1, x, () -> x.unsafeIn(1));
        x.advance(11);
        Check.answersAndStays("30 the next hour", 1, x, () -> x.unsafeIn(0));
        x.advance(1);
        Check.answers("30 the next one, although this one was unsafe", 1, () -> x.unsafeIn(0));
        Check.failsAndStays("30 unsafeIn(2)", Check.IOOBE, x, () -> x.unsafeIn(2));
        Check.fails("30 unsafeIn(-1)", Check.IOOBE, () -> x.unsafeIn(-1));
        x.announce(999);
        x.setSafe(0, 0, 450);
        Check.answers("30 with the group", 1, () -> x.unsafeIn(0));
        // hour 83 * 24 is number 1993 from 1
        MuseumCases y = Check.museum("museum 0 0;season 82 500;season 83 501;season 85 500;case c 1000 1000 500 safe 0 500;");
        Check.answers("30 number 1993", 1993, () -> y.unsafeIn(0));
        y.setSafe(0, 0, 501);
        Check.answers("30 none", -1, () -> y.unsafeIn(0));
        MuseumCases z = Check.museum("museum 0 0;season 83 500;season 84 501;season 86 500;case c 1000 1000 500 safe 0 500;");
        Check.answers("30 number 2017 is too late", -1, () -> z.unsafeIn(0));
        z.advance(16);
        Check.answers("30 number 2001 is too late", -1, () -> z.unsafeIn(0));
        z.advance(1);
        Check.answers("30 number 2000", 2000, () -> z.unsafeIn(0));
    }

    private static void p31RestOf() {
        MuseumCases x = Check.museum(DRY);
        // 467 + 233 is 700, and 466 + 233 is 699
        Check.answersAndStays("31 restOf(0)", 467, x, () -> x.restOf(0));
        x.advance(50);
        Check.answers("31 restOf(0) at rest", 467, () -> x.restOf(0));
        Check.failsAndStays("31 restOf(1)", Check.IOOBE, x, () -> x.restOf(1));
        Check.fails("31 restOf(-1)", Check.IOOBE, () -> x.restOf(-1));
        MuseumCases y = Check.museum("museum 0 0;season 0 0;kind k 1000 point 0 0 point 1000 9999;case c 100 0 0;case d 100 0 1000;case e 100 0 0;cassette c k 999 1000;");
        Check.answers("31 a full case", 1000, () -> y.restOf(1));
        Check.answers("31 an empty case", 0, () -> y.restOf(2));
        y.advance(1);
        // 9989 units: 99 + 9889 at 990 are too few, 99 + 9899 at 991 are enough
        Check.answers("31 with its cassette", 991, () -> y.restOf(0));
        y.remove(0);
        Check.failsAndStays("31 too much moisture", Check.NSEE, y, () -> y.restOf(0));
    }

    private static void p32MassFor() {
        MuseumCases x = Check.museum(DAMP);
        Check.answersAndStays("32 one safe hour", 1, x, () -> x.massFor(0, 0, 500, 1));
        Check.answersAndStays("32 two safe hours", massBySearch(500, 2), x, () -> x.massFor(0, 0, 500, 2));
        Check.answersAndStays("32 three safe hours", massBySearch(400, 3), x, () -> x.massFor(0, 0, 400, 3));
        Check.failsAndStays("32 72 safe hours", Check.NSEE, x, () -> x.massFor(0, 0, 400, 72));
        Check.failsAndStays("32 massFor(1, 0, 1001, 0)", Check.IOOBE, x, () -> x.massFor(1, 0, 1001, 0));
        Check.failsAndStays("32 massFor(0, 1, 1001, 0)", Check.IOOBE, x, () -> x.massFor(0, 1, 1001, 0));
        Check.fails("32 massFor(-1, 0, 0, 1)", Check.IOOBE, () -> x.massFor(-1, 0, 0, 1));
        Check.fails("32 massFor(0, -1, 0, 1)", Check.IOOBE, () -> x.massFor(0, -1, 0, 1));
        int[][] wrong = {{-1, 1}, {1001, 1}, {0, 0}, {0, 73}, {0, -1}, {Check.MAX, Check.MAX}};
        for (int[] w : wrong) {
            Check.failsAndStays("32 massFor(0, 0, " + w[0] + ", " + w[1] + ")", Check.IAE, x, () -> x.massFor(0, 0, w[0], w[1]));
        }
        for (int i = 0; i < 5; i++) {
            x.add(0, 0, 1, 500);
        }
        Check.answersAndStays("32 a case with 5 cassettes", 1, x, () -> x.massFor(0, 0, 500, 1));
        // a mass of m gives m units to the dry air, which makes 10 * m of them
        MuseumCases y = Check.museum("museum 0 0;kind k 1000 point 0 0 point 10 10 point 11 1000;case c 100 0 0 safe 100 110;");
        Check.answers("32 the least of the right ones", 10, () -> y.massFor(0, 0, 1000, 1));
        MuseumCases z = Check.museum("museum 0 0;" + LINE + "case c 1000 0 0 safe 499 1000;");
        Check.answers("32 the greatest mass", 998, () -> z.massFor(0, 0, 1000, 1));
        z.setSafe(0, 500, 1000);
        Check.fails("32 1000 would be needed", Check.NSEE, () -> z.massFor(0, 0, 1000, 1));
        MuseumCases w = Check.museum("museum 0 0;kind k 1000 point 0 0 point 1000 1000;case c 1000 0 0 safe 999 1000;");
        Check.answers("32 a mass of 999", 999, () -> w.massFor(0, 0, 1000, 1));
        p32MassForInItsHour();
    }

    /** The hours of a trial are those that come next, with the groups that are announced. */
    private static void p32MassForInItsHour() {
        String text = "museum 0 1;season 0 500;visitors 3 3 500;kind k 1000 point 0 0 point 1000 1000;case c 1000 1000 500 safe 0 500;cassette c k 1 500;";
        MuseumCases x = Check.museum(text);
        Check.answers("32 three hours in which nobody comes", 1, () -> x.massFor(0, 0, 0, 3));
        Check.answers("33 three hours in which nobody comes", 0, () -> x.bestFor(0, 3));
        // with 1000 in the air the old one takes 1; 999 has 499 by then and takes 499 more, 998 takes 498
        Check.answers("32 the fourth hour fills the air", 999, () -> x.massFor(0, 0, 0, 4));
        x.advance(3);
        // a mass of 500 takes 499 of the 999 that are left
        Check.answers("32 that hour comes next", 500, () -> x.massFor(0, 0, 0, 1));
        x.advance(2);
        Check.answers("32 that hour has gone", 1, () -> x.massFor(0, 0, 0, 1));
        x.announce(4);
        // the room has 504, and with 504 in the air 8 * 504 / 1000 units are 4
        Check.answersAndStays("32 a group comes", 8, x, () -> x.massFor(0, 0, 0, 1));
        x.exchange(0, 500);
        x.add(0, 0, 8, 500);
        // only one that is conditioned for 0 takes the 4 units again
        Check.answersAndStays("33 a group comes", 0, x, () -> x.bestFor(2, 1));
    }

    /** The answer by trying with add() on fresh museums. */
    private static int massBySearch(int humidity, int hours) {
        for (int mass = 1; mass <= 999; mass++) {
            MuseumCases x = Check.museum(DAMP);
            x.add(0, 0, mass, humidity);
            if (x.advance(hours) == 0) {
                return mass;
            }
        }
        return -1;
    }

    private static void p33BestFor() {
        MuseumCases x = Check.museum(DAMP + "cassette c k 999 500;");
        Check.answersAndStays("33 all are safe in the first hour", bestBySearch(1), x, () -> x.bestFor(0, 1));
        Check.answersAndStays("33 three hours", bestBySearch(3), x, () -> x.bestFor(0, 3));
        Check.answersAndStays("33 72 hours", bestBySearch(72), x, () -> x.bestFor(0, 72));
        Check.failsAndStays("33 bestFor(1, 0)", Check.NSEE, x, () -> x.bestFor(1, 0));
        Check.failsAndStays("33 bestFor(-1, 1)", Check.NSEE, x, () -> x.bestFor(-1, 1));
        for (int hours : new int[] {0, -1, 73, Check.MIN, Check.MAX}) {
            Check.failsAndStays("33 bestFor(0, " + hours + ")", Check.IAE, x, () -> x.bestFor(0, hours));
        }
        // only a cassette that is conditioned for 1000 lifts the case to 500 in one hour
        MuseumCases y = Check.museum("museum 0 0;kind k 1000 point 0 0 point 999 0 point 1000 500;case c 1000 0 0 safe 490 1000;cassette c k 999 0;");
        Check.answers("33 the greatest", 1000, () -> y.bestFor(0, 1));
        MuseumCases z = Check.museum(DRY);
        Check.answers("33 of several the lowest", 0, () -> z.bestFor(0, 72));
        MuseumCases w = Check.museum("museum 0 0;" + LINE + "case c 1000 0 500 safe 0 0;cassette c k 500 500;");
        Check.answers("33 all the same, all unsafe", 0, () -> w.bestFor(0, 10));
    }

    private static int bestBySearch(int hours) {
        int best = -1;
        int fewest = 0;
        for (int humidity = 0; humidity <= 1000; humidity += 50) {
            MuseumCases x = Check.museum(DAMP + "cassette c k 999 500;");
            x.exchange(0, humidity);
            int unsafe = x.advance(hours);
            if (best < 0 || unsafe < fewest) {
                best = humidity;
                fewest = unsafe;
            }
        }
        return best;
    }

    private static void p34p35SaveAndRestore() {
        MuseumCases x = Check.museum(BASE);
        for (int slot : new int[] {-1, 2, Check.MIN, Check.MAX}) {
            Check.failsAndStays("34 save(" + slot + ")", Check.IOOBE, x, () -> Check.save(x, slot));
            Check.failsAndStays("35 restore(" + slot + ")", Check.IOOBE, x, () -> Check.restore(x, slot));
        }
        Check.failsAndStays("35 nothing in 0", Check.NSEE, x, () -> Check.restore(x, 0));
        x.announce(40);
        String first = Check.all(x);
        Check.answersAndStays("34 save(0)", 0, x, () -> Check.save(x, 0));
        Check.failsAndStays("35 nothing in 1", Check.NSEE, x, () -> Check.restore(x, 1));
        x.advance(40);
        x.add(1, 1, 100, 100);
        x.exchange(0, 900);
        x.setLeak(1, 77);
        x.setSafe(1, 7, 77);
        x.open(0);
        x.announce(3);
        String second = Check.all(x);
        double mean = x.mean(0);
        int ahead = x.humidityIn(1, 100);
        x.save(1);
        x.advance(50);
        x.move(1, 0);
        Check.answers("35 restore(1)", 0, () -> Check.restore(x, 1));
        Check.same("35 as it was saved in 1", Check.all(x), second);
        Check.answersDouble("35 the mean too", mean, () -> x.mean(0));
        Check.answers("35 what will come too", ahead, () -> x.humidityIn(1, 100));
        x.restore(0);
        Check.same("35 as it was saved in 0", Check.all(x), first);
        Check.fails("35 no hour has passed then", Check.NSEE, () -> x.mean(0));
        x.restore(1);
        x.restore(0);
        x.advance(5);
        x.restore(0);
        Check.same("35 it stays saved", Check.all(x), first);
        x.advance(7);
        String third = Check.all(x);
        x.save(0);
        x.advance(7);
        x.restore(0);
        Check.same("34 in place of what was there", Check.all(x), third);
        Check.write(x, Check.bytes("museum 0 0"));
        x.restore(1);
        Check.answers("35 the text stays", 10, () -> x.truncate(10));
    }

    public static void main(String[] args) {
        p07Report();
        p08SetPoint();
        p09Visitors();
        p10Content();
        p11Announce();
        p12DisplayCase();
        p13Balance();
        p14Recorded();
        p15Swing();
        p16Mean();
        p17Buffering();
        p18SetLeak();
        p19SetSafe();
        p20Open();
        p21Cassette();
        p22CaseOf();
        p23Add();
        p24Remove();
        p25Move();
        p26Exchange();
        p27Advance();
        p28RoomIn();
        p29HumidityIn();
        p30UnsafeIn();
        p31RestOf();
        p32MassFor();
        p33BestFor();
        p34p35SaveAndRestore();
        Check.end("PromiseTests");
    }
}
