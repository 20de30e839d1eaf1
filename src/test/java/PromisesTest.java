/** Checks written by hand for each promise: ordinary inputs, the edges that the document names, wrong inputs. */
public final class PromisesTest {
    private interface Call {
        long run();
    }

    private static final Class<?> ARGUMENT = IllegalArgumentException.class;
    private static final Class<?> STATE = IllegalStateException.class;
    private static final Class<?> INDEX = IndexOutOfBoundsException.class;
    private static final int LOW = Integer.MIN_VALUE;
    private static final int HIGH = Integer.MAX_VALUE;

    private static int checks = 0;
    private static int wrong = 0;

    private static void is(String what, long got, long want) {
        checks++;
        if (got != want) {
            wrong++;
            System.out.println(what + ": answered " + got + ", due is " + want);
        }
    }

    /** The call throws just this, and neither the digest nor the count of saved states changes. */
    private static void fails(String what, CapWallets x, Class<?> due, Call call) {
        checks++;
        long before = x.digest();
        String got = "nothing";
        try {
            call.run();
        } catch (RuntimeException e) {
            got = e.getClass().getName();
        }
        if (!got.equals(due.getName())) {
            wrong++;
            System.out.println(what + ": threw " + got + ", due is " + due.getName());
        }
        is(what + " changes nothing", x.digest(), before);
    }

    private static void type(CapWallets x, String text) {
        x.clearBuffer();
        for (int i = 0; i < text.length(); i++) {
            x.append(text.charAt(i));
        }
    }

    private static void numbers(String what, CapWallets x, int place, int... want) {
        for (int i = 0; i < want.length; i++) {
            is(what + " tapOf(" + place + ", " + i + ")", x.tapOf(place, i), want[i]);
        }
    }

    private static void days(String what, CapWallets x, int wallet, int day, int... want) {
        for (int i = 0; i < want.length; i++) {
            is(what + " day(" + wallet + ", " + day + ", " + i + ")", x.day(wallet, day, i), want[i]);
        }
    }

    private static void weeks(String what, CapWallets x, int wallet, int week, int... want) {
        for (int i = 0; i < want.length; i++) {
            is(what + " week(" + wallet + ", " + week + ", " + i + ")", x.week(wallet, week, i), want[i]);
        }
    }

    private static void counts(String what, CapWallets x, int... want) {
        for (int i = 0; i < want.length; i++) {
            is(what + " count(" + i + ")", x.count(i), want[i]);
        }
    }

    private static CapWallets full() {
        CapWallets x = new CapWallets();
        for (int i = 0; i < 60; i++) {
            x.tap(i % 4, i % 28, i, i % 10, i % 3 != 0);
        }
        return x;
    }

    private static void promise1() {
        is("1 NONE", CapWallets.NONE, -1);
        CapWallets x = new CapWallets();
        counts("1", x, 0, 0, 0, 0, 0, 0, 0, 0, 0, 0);
        is("1 buffer", x.clearBuffer(), 0);
        int[] first = {180, 60, 420, 120, 700, 2800};
        for (int i = 0; i < 6; i++) {
            is("1 setting " + i, x.set(i, first[i]), first[i]);
        }
        for (int wallet = 0; wallet < 4; wallet++) {
            for (int week = 0; week < 4; week++) {
                weeks("1", x, wallet, week, 0, 0, 0, 0, 0, 0, 0);
            }
            is("1 ledger", x.ledger(wallet, 0, 0), -1);
        }
        fails("1 no state is saved", new CapWallets(), STATE, new CapWallets()::undo);
    }

    private static void promise2() {
        CapWallets x = new CapWallets();
        is("2 first", x.tap(0, 27, 1439, 9, true), 0);
        is("2 day before", x.tap(3, 0, 1439, 0, false), 0);
        is("2 minute before", x.tap(1, 27, 1438, 9, false), 1);
        is("2 same time goes behind", x.tap(2, 27, 1438, 8, true), 2);
        is("2 same time goes behind those that came", x.tap(2, 0, 1439, 1, true), 1);
        numbers("2", x, 0, 3, 0, 1439, 0, 0, -1, 420, 0);
        numbers("2", x, 1, 2, 0, 1439, 1, 1, -1, 420, 0);
        numbers("2", x, 2, 1, 27, 1438, 9, 0, -1, 420, 0);
        numbers("2", x, 3, 2, 27, 1438, 8, 1, -1, 420, 0);
        numbers("2", x, 4, 0, 27, 1439, 9, 1, -1, 420, 0);
        is("2 undoable", x.count(9), 5);
        int[][] bad = {{-1, 0, 0, 0}, {4, 0, 0, 0}, {0, -1, 0, 0}, {0, 28, 0, 0}, {0, 0, -1, 0}, {0, 0, 1440, 0},
            {0, 0, 0, -1}, {0, 0, 0, 10}, {LOW, 0, 0, 0}, {HIGH, 0, 0, 0}, {0, HIGH, LOW, HIGH}};
        CapWallets full = full();
        is("2 60 taps", full.count(0), 60);
        for (int[] b : bad) {
            fails("2 range", x, ARGUMENT, () -> x.tap(b[0], b[1], b[2], b[3], true));
            fails("2 range is told first", full, ARGUMENT, () -> full.tap(b[0], b[1], b[2], b[3], false));
        }
        fails("2 full", full, STATE, () -> full.tap(0, 0, 0, 0, true));
        full.remove(0);
        is("2 room again", full.tap(3, 27, 1439, 9, true), 59);
    }

    private static void rides() {
        CapWallets x = new CapWallets();
        x.tap(0, 3, 100, 1, true);
        x.tap(1, 3, 150, 5, true);
        x.tap(0, 3, 220, 8, false);
        numbers("rides: 120 minutes, another wallet between", x, 0, 0, 3, 100, 1, 1, 2, 420, 0);
        numbers("rides: 120 minutes, another wallet between", x, 2, 0, 3, 220, 8, 0, 0, 420, 0);
        x.set(3, 119);
        is("rides: a minute too late", x.tapOf(0, 5), -1);
        x.set(3, 120);
        x.set(2, 7);
        is("rides: fare of four zones", x.tapOf(0, 6), 180 + 4 * 60);
        is("rides: fare of a ride alone", x.tapOf(1, 6), 7);
        x.tap(0, 3, 100, 0, true);
        is("rides: two ins, the latter rides", x.tapOf(1, 5), 3);
        is("rides: two ins, the former is alone", x.tapOf(0, 5), -1);
        CapWallets y = new CapWallets();
        y.tap(2, 5, 1439, 4, true);
        y.tap(2, 6, 0, 4, false);
        counts("rides: not over midnight", y, 2, 2, 2, 840);
        y.tap(2, 5, 1439, 5, false);
        numbers("rides: within a zone, at the same minute", y, 0, 2, 5, 1439, 4, 1, 1, 180, 0);
        y.tap(2, 6, 0, 2, false);
        is("rides: out, out", y.tapOf(3, 5), -1);
        CapWallets z = new CapWallets();
        z.tap(0, 0, 10, 3, true);
        z.tap(0, 0, 20, 3, false);
        is("rides: to leave at the same station", z.tapOf(1, 6), 180);
        z.tap(0, 0, 15, 9, false);
        is("rides: a late tap changes the ride", z.tapOf(0, 5), 1);
        is("rides: a late tap leaves one alone", z.tapOf(2, 5), -1);
        is("rides: fares 1 to 4 zones", z.tapOf(0, 6), 180 + 3 * 60);
    }

    private static void promise3() {
        CapWallets x = new CapWallets();
        CapWallets empty = new CapWallets();
        fails("3 empty", empty, INDEX, () -> empty.remove(0));
        x.tap(0, 0, 10, 0, true);
        x.tap(0, 0, 20, 2, true);
        x.tap(0, 0, 30, 4, false);
        int[] bad = {-1, 3, 59, 60, 61, LOW, HIGH};
        for (int place : bad) {
            fails("3 place", x, INDEX, () -> x.remove(place));
        }
        is("3 left", x.remove(1), 2);
        is("3 the next one moves up", x.tapOf(1, 2), 30);
        is("3 rides are anew", x.tapOf(0, 5), 1);
        is("3 undoable", x.undo(), 3);
        is("3 undone", x.tapOf(1, 2), 20);
        is("3 last", x.remove(2), 2);
        is("3 first", x.remove(0), 1);
        is("3 only", x.remove(0), 0);
    }

    private static void promises4And18() {
        CapWallets x = new CapWallets();
        int[][] bad = {{0, -1, 0}, {0, 1440, 0}, {0, 0, -1}, {0, 0, 10}, {-1, HIGH, 0}, {99, 0, LOW}};
        for (int[] b : bad) {
            fails("4 range", x, ARGUMENT, () -> x.claim(b[0], b[1], b[2]));
            fails("18 range", x, ARGUMENT, () -> x.whyNot(b[0], b[1], b[2]));
        }
        x.tap(1, 8, 600, 2, true);
        claims("no tap", x, -1, 600, 0, 1);
        claims("no tap", x, 1, 600, 0, 1);
        claims("no tap", x, HIGH, 600, 0, 1);
        claims("an out ahead", x, 0, 599, 0, 2);
        claims("an out too late to ride", x, 0, 721, 9, 5);
        is("4 refused are counted", x.count(7), 5);
        claims("an out at the end", x, 0, 720, 9, 0);
        numbers("4 claimed", x, 1, 1, 8, 720, 9, 0, 0, 180 + 3 * 60, 1);
        is("4 the tap itself was not claimed", x.tapOf(0, 7), 0);
        claims("no ride alone", x, 0, 720, 9, 1);
        claims("no ride alone", x, 1, 500, 9, 1);
        x.tap(1, 13, 700, 5, false);
        claims("an in behind", x, 2, 701, 4, 2);
        claims("an in at the same minute comes behind it", x, 2, 700, 4, 5);
        claims("an in too early", x, 2, 579, 4, 5);
        claims("an in ahead", x, 2, 699, 4, 0);
        numbers("4 claimed in", x, 2, 1, 13, 699, 4, 1, 3, 180, 1);
        is("4 claims made", x.week(1, 1, 5), 2);
        x.tap(1, 7, 4, 0, true);
        claims("two claims already", x, 0, 5, 0, 3);
        x.remove(4);
        x.remove(3);
        claims("two claims, taps removed", x, 0, 5, 0, 3);
        claims("the minute is told before", x, 0, 3, 0, 2);
        x.tap(1, 14, 9, 0, true);
        claims("another week", x, 3, 9, 0, 0);
        x.tap(0, 7, 0, 0, true);
        claims("another wallet", x, 0, 5, 0, 0);
        CapWallets y = new CapWallets();
        y.tap(0, 0, 100, 0, true);
        y.tap(0, 0, 110, 0, true);
        claims("a tap between", y, 0, 111, 0, 5);
        claims("behind a tap of the same minute", y, 0, 110, 0, 5);
        claims("ahead of the next", y, 0, 109, 0, 0);
        is("4 undoable", y.undo(), 4);
        is("4 undone", y.count(0), 2);
        is("4 claims are undone", y.week(0, 0, 5), 0);
        is("4 undoable if refused", y.undo(), 3);
        is("4 refusals are undone", y.count(7), 1);
        claimsWhenFull();
    }

    private static void claims(String what, CapWallets x, int place, int minute, int station, int want) {
        long before = x.digest();
        is("18 " + what, x.whyNot(place, minute, station), want);
        is("18 changes nothing", x.digest(), before);
        int refused = x.count(7);
        is("4 " + what, x.claim(place, minute, station), want);
        is("4 refused so far: " + what, x.count(7), want == 0 ? refused : refused + 1);
    }

    private static void claimsWhenFull() {
        CapWallets x = new CapWallets();
        for (int i = 0; i < 58; i++) {
            x.tap(0, 0, 2 * i, 0, true);
        }
        claims("room for the 60th", x, 0, 1, 1, 0);
        x.tap(0, 0, 1439, 0, true);
        claims("full", x, 59, 1439, 0, 4);
        claims("full is told ahead of no ride", x, 3, 500, 0, 4);
        claims("the minute is told ahead of full", x, 59, 1438, 0, 2);
        x.remove(59);
        claims("room again", x, 58, 114, 0, 0);
        x.remove(59);
        x.tap(0, 0, 1439, 0, true);
        claims("claims used up are told ahead of full", x, 59, 1439, 0, 3);
    }

    private static void promises5And16() {
        CapWallets x = new CapWallets();
        int[] bad = {-1, 4, LOW, HIGH};
        for (int week : bad) {
            fails("5 range", x, ARGUMENT, () -> x.settle(week));
        }
        x.tap(0, 6, 0, 0, true);
        x.tap(2, 0, 0, 0, true);
        x.tap(2, 1, 0, 0, true);
        x.tap(2, 7, 0, 0, true);
        is("5 settle", x.settle(0), 101260);
        weeks("5", x, 0, 0, 1, 420, 420, 420, 420, 0, 1);
        weeks("5", x, 1, 0, 0, 0, 0, 0, 0, 0, 1);
        weeks("5", x, 2, 0, 2, 840, 840, 840, 840, 0, 1);
        weeks("5", x, 2, 1, 1, 420, 420, 420, 0, 0, 0);
        is("5 nothing anew", x.settle(0), 100000);
        x.remove(1);
        counts("5 behind", x, 3, 3, 3, 1260, 1260, 0, 0, 0, 1);
        x.tap(1, 0, 0, 0, true);
        counts("5 behind", x, 4, 4, 4, 1680, 1260, 0, 0, 0, 2);
        x.remove(0);
        is("5 refund", x.settle(0), 100000 - 420);
        counts("5 refunded", x, 3, 3, 3, 1260, 840, 1, 840, 0, 0);
        x.set(2, 0);
        is("5 two refunds", x.settle(0), 100000 - 840);
        counts("5 refunded", x, 3, 3, 3, 0, 0, 3, 1680, 0, 0);
        is("16 week", x.ledger(2, 0, 0), 0);
        is("16 of 0 after a refund", x.ledger(2, 0, 1), 100000);
        is("16 refund", x.ledger(2, 1, 1), 100000 - 840);
        is("16 of 0", x.ledger(2, 2, 1), 100000);
        is("16 first", x.ledger(2, 3, 1), 100840);
        is("16 not so many", x.ledger(2, 4, 0), -1);
        is("16 not so many", x.ledger(2, 4, 1), -1);
        is("5 undoable as one", x.undo(), 5);
        counts("5 undone", x, 3, 3, 3, 0, 840, 1, 840, 0, 2);
        is("16 undone", x.ledger(2, 3, 1), -1);
        for (int i = 0; i < 9; i++) {
            x.settle(i % 4);
        }
        for (int back = 0; back < 8; back++) {
            is("16 eight entries", x.ledger(3, back, 0), (8 - back) % 4);
        }
        is("5 how often", x.week(3, 0, 6), 6);
        int[][] wrongs = {{-1, 0, 0}, {4, 0, 0}, {0, -1, 0}, {0, 8, 0}, {0, 0, -1}, {0, 0, 2}, {HIGH, LOW, HIGH}};
        for (int[] b : wrongs) {
            fails("16 range", x, ARGUMENT, () -> x.ledger(b[0], b[1], b[2]));
        }
    }

    /** Each week of each wallet has numbers of its own. */
    private static void everyWeek() {
        CapWallets x = new CapWallets();
        x.set(5, 9999);
        x.set(2, 100);
        for (int i = 0; i < 16; i++) {
            for (int n = 0; n <= i % 4; n++) {
                x.tap(i / 4, 7 * (i % 4) + i / 4, n, 0, true);
            }
        }
        for (int week = 3; week >= 0; week--) {
            is("5 week " + week, x.settle(week), 100000 + 400 * (week + 1));
            is("5 week " + week, x.count(4), week == 0 ? 4000 : x.count(4));
        }
        for (int i = 0; i < 16; i++) {
            weeks("5 every week", x, i / 4, i % 4, i % 4 + 1, 100 * (i % 4 + 1), 100 * (i % 4 + 1), 100 * (i % 4 + 1),
                100 * (i % 4 + 1), 0, 1);
            is("16 every week", x.ledger(i / 4, i % 4, 0), i % 4);
        }
        x.settle(2);
        x.undo();
        for (int back = 0; back < 4; back++) {
            is("16 the weeks are restored", x.ledger(1, back, 0), back);
        }
        x.set(2, 99);
        is("15 all are to be settled anew", x.count(8), 16);
        x.remove(0);
        x.tap(3, 27, 0, 9, true);
        is("20 of the last wallet and week", x.leastCap(), 5 * 99);
        for (int i = 0; i < 60; i++) {
            x.remove(0);
            if (x.count(0) == 2) {
                break;
            }
        }
        x.tap(0, 0, 0, 0, true);
        is("19 the first station", x.leaky(), 0);
        x.tap(0, 0, 1, 0, true);
        x.tap(0, 0, 2, 0, true);
        is("20 of the first wallet and week", x.leastCap(), 3 * 99);
        for (int i = 0; i < 16; i++) {
            CapWallets y = new CapWallets();
            y.tap(i / 4, 7 * (i % 4) + 6, 500, 4, true);
            claims("every week", y, 0, 510, 4, 0);
            for (int j = 0; j < 16; j++) {
                is("14 claims of every week", y.week(j / 4, j % 4, 5), i == j ? 1 : 0);
            }
        }
    }

    private static void promise6() {
        CapWallets x = new CapWallets();
        int[] least = {0, 0, 0, 1, 0, 0};
        int[] most = {999, 999, 999, 1439, 9999, 9999};
        for (int i = 0; i < 6; i++) {
            int setting = i;
            fails("6 below", x, ARGUMENT, () -> x.set(setting, least[setting] - 1));
            fails("6 above", x, ARGUMENT, () -> x.set(setting, most[setting] + 1));
            x.set(i, least[i]);
            is("6 least", x.set(i, most[i]), least[i]);
            is("6 most", x.set(i, most[i]), most[i]);
        }
        int[] bad = {-1, 6, LOW, HIGH};
        for (int setting : bad) {
            fails("6 setting", x, INDEX, () -> x.set(setting, 1));
            fails("6 setting is told first", x, INDEX, () -> x.set(setting, -1));
        }
        CapWallets y = new CapWallets();
        y.tap(0, 0, 0, 0, true);
        y.set(4, 100);
        days("6 the cap of a day", y, 0, 0, 1, 1, 420, 100);
        y.set(5, 99);
        weeks("6 the cap of a week", y, 0, 0, 1, 420, 100, 99);
        is("6 undoable", y.undo(), 2);
        is("6 undone", y.week(0, 0, 3), 100);
    }

    private static void promises7And8() {
        CapWallets x = new CapWallets();
        int[] bad = {32, 127, 0, -1, LOW, HIGH};
        for (int code : bad) {
            fails("7 code", x, ARGUMENT, () -> x.append(code));
        }
        for (int i = 0; i < 60; i++) {
            is("7 length", x.append(i % 2 == 0 ? 33 : 126), i + 1);
        }
        fails("7 full", x, STATE, () -> x.append(48));
        for (int code : bad) {
            fails("7 code is told first", x, ARGUMENT, () -> x.append(code));
        }
        is("7 not undoable", x.count(9), 0);
        is("8 length", x.clearBuffer(), 60);
        is("8 cleared", x.clearBuffer(), 0);
        is("8 not undoable", x.count(9), 0);
        is("7 anew", x.append(48), 1);
    }

    private static void promise9() {
        String[] right = {"", "0d0:0+0", "3d27:1439-9", "1d9:999+5;2d19:1399-0", "0d10:10+0;0d20:100-1;0d1:1+1"};
        CapWallets x = new CapWallets();
        for (String text : right) {
            for (int length = 0; length <= text.length(); length++) {
                type(x, text.substring(0, length));
                is("9 " + text, x.firstError(), length);
            }
        }
        String[] errors = {"4", "d", "-", ";", "0D", "00", "0d-", "0da", "0d00", "0d01", "0d28", "0d30", "0d100", "0d271",
            "0d0+", "0d0;", "0d0:+", "0d0:-", "0d0:00", "0d0:01", "0d0:1440", "0d0:1500", "0d0:2000", "0d0:14390",
            "0d0:145", "0d0:0:", "0d0:0;", "0d0:0+a", "0d0:0++", "0d0:0+;", "0d0:0+00", "0d0:0+0:", "0d0:0+0;;",
            "0d0:0+0;4", "0d:", "0d1;", "0d0::", "0d0:1:", "0d0:12;", "0d0:1+:", "0d0:0+0;d", "1d5:77-3;2d28"};
        for (String text : errors) {
            type(x, text);
            int want = text.equals("0d0:145") ? 7 : text.length() - 1;
            is("9 " + text, x.firstError(), want);
        }
        type(x, "0d28:0+0;x");
        is("9 the first of several", x.firstError(), 3);
        is("9 the buffer stays", x.clearBuffer(), 10);
    }

    private static void promise10() {
        CapWallets x = new CapWallets();
        String[] bad = {"", "0", "0d", "0d0", "0d0:", "0d0:0", "0d0:0+", "0d0:0+0;", "0d0:0+0;1", "4d0:0+0", "0d0:0+0x"};
        for (String text : bad) {
            type(x, text);
            fails("10 " + text, x, ARGUMENT, x::load);
        }
        is("10 the buffer stays", x.clearBuffer(), 8);
        type(x, "1d2:30-4;3d27:1439+9;1d2:29+5;1d2:30+6");
        is("10 come", x.load(), 4);
        is("10 cleared", x.clearBuffer(), 0);
        numbers("10", x, 0, 1, 2, 29, 5, 1, 1, 180, 0);
        numbers("10", x, 1, 1, 2, 30, 4, 0, 0, 180, 0);
        numbers("10", x, 2, 1, 2, 30, 6, 1, -1, 420, 0);
        numbers("10", x, 3, 3, 27, 1439, 9, 1, -1, 420, 0);
        is("10 undoable as one", x.undo(), 0);
        is("10 undone", x.count(0), 0);
        is("10 the buffer stays cleared", x.clearBuffer(), 0);
        type(x, "0d0:0+0;0d0:0+1;0d0:0+2;0d0:0+3;0d0:0+4;0d0:0+5;0d0:0+6");
        is("10 seven", x.load(), 7);
        for (int i = 0; i < 7; i++) {
            is("10 in their order", x.tapOf(i, 3), i);
        }
        CapWallets y = full();
        type(y, "0d0:0+0");
        is("10 none comes", y.load(), 0);
        is("10 cleared", y.clearBuffer(), 0);
        y.remove(59);
        y.remove(58);
        type(y, "2d27:1439+7;2d27:1439+8;2d27:1439+9");
        is("10 two come", y.load(), 2);
        is("10 60 taps", y.count(0), 60);
        is("10 the second", y.tapOf(59, 3), 8);
        is("10 undo", y.undo(), 5);
        y.undo();
        y.undo();
        is("10 undoable if none comes", y.undo(), 2);
    }

    private static void promise11() {
        CapWallets x = new CapWallets();
        fails("11 none", x, STATE, x::undo);
        long[] digests = new long[9];
        for (int i = 0; i < 9; i++) {
            digests[i] = x.count(0);
            x.tap(i % 4, i, 0, 0, true);
        }
        is("11 six", x.count(9), 6);
        type(x, "zz");
        for (int i = 8; i >= 3; i--) {
            is("11 left", x.undo(), i - 3);
            is("11 restored", x.count(0), digests[i]);
        }
        fails("11 no more", x, STATE, x::undo);
        is("11 the buffer stays", x.clearBuffer(), 2);
        CapWallets y = new CapWallets();
        y.set(0, 180);
        is("11 saved also if nothing changes", y.count(9), 1);
        y.tap(0, 0, 0, 0, true);
        y.settle(0);
        long before = y.digest();
        y.claim(9, 0, 0);
        y.undo();
        is("11 counts are restored", y.digest(), before);
    }

    private static void promise12() {
        CapWallets x = new CapWallets();
        x.tap(3, 20, 1439, 7, false);
        int[] bad = {-1, 8, LOW, HIGH};
        for (int what : bad) {
            fails("12 what", x, ARGUMENT, () -> x.tapOf(0, what));
        }
        int[] places = {-1, 1, 60, 61, LOW, HIGH};
        for (int place : places) {
            fails("12 place", x, INDEX, () -> x.tapOf(place, 0));
            fails("12 place is told first", x, INDEX, () -> x.tapOf(place, 8));
        }
        numbers("12", x, 0, 3, 20, 1439, 7, 0, -1, 420, 0);
    }

    private static void promises13To15() {
        CapWallets x = new CapWallets();
        x.tap(1, 6, 0, 0, true);
        x.tap(1, 6, 5, 9, false);
        x.tap(1, 6, 6, 9, false);
        x.tap(1, 7, 6, 9, false);
        x.tap(0, 6, 3, 9, false);
        days("13", x, 1, 6, 2, 1, 840, 700);
        days("13", x, 1, 7, 1, 1, 420, 420);
        days("13", x, 0, 6, 1, 1, 420, 420);
        days("13", x, 2, 6, 0, 0, 0, 0);
        weeks("14", x, 1, 0, 2, 840, 700, 700, 0, 0, 0);
        weeks("14", x, 1, 1, 1, 420, 420, 420, 0, 0, 0);
        x.set(5, 500);
        weeks("14 cap", x, 1, 0, 2, 840, 700, 500, 0, 0, 0);
        counts("15", x, 5, 4, 3, 500 + 420 + 420, 0, 0, 0, 0, 0, 6);
        int[][] days = {{-1, 0, 0}, {4, 0, 0}, {0, -1, 0}, {0, 28, 0}, {0, 0, -1}, {0, 0, 4}, {HIGH, LOW, LOW}};
        for (int[] b : days) {
            fails("13 range", x, ARGUMENT, () -> x.day(b[0], b[1], b[2]));
        }
        int[][] weeks = {{-1, 0, 0}, {4, 0, 0}, {0, -1, 0}, {0, 4, 0}, {0, 0, -1}, {0, 0, 7}, {LOW, HIGH, LOW}};
        for (int[] b : weeks) {
            fails("14 range", x, ARGUMENT, () -> x.week(b[0], b[1], b[2]));
        }
        int[] bad = {-1, 10, LOW, HIGH};
        for (int what : bad) {
            fails("15 range", x, ARGUMENT, () -> x.count(what));
        }
    }

    private static void promise17() {
        CapWallets x = new CapWallets();
        x.tap(0, 6, 500, 1, true);
        long before = x.digest();
        is("17 rides with it", x.ifTapped(0, 6, 500, 2, false), 100000 + 240 - 420);
        is("17 alone", x.ifTapped(0, 6, 499, 2, false), 100280);
        is("17 another week", x.ifTapped(0, 7, 501, 2, false), 100420);
        is("17 another wallet", x.ifTapped(1, 6, 501, 2, false), 100420);
        is("17 behind those of its time", x.ifTapped(0, 6, 500, 2, true), 100280);
        is("17 changes nothing", x.digest(), before);
        x.set(5, 0);
        is("17 capped", x.ifTapped(0, 6, 0, 2, true), 100000);
        CapWallets full = new CapWallets();
        for (int i = 0; i < 60; i++) {
            full.tap(0, 0, 9, 0, true);
        }
        is("17 60 taps", full.ifTapped(0, 1, 9, 0, true), 100420);
        full.set(4, 9999);
        full.set(5, 9999);
        full.set(2, 100);
        is("17 60 taps, the first place", full.ifTapped(0, 0, 0, 0, true), 100100);
        is("17 60 taps, the last place", full.ifTapped(0, 0, 10, 0, false), 100080);
        is("17 still 60 taps", full.count(0), 60);
        int[][] bad = {{-1, 0, 0, 0}, {4, 0, 0, 0}, {0, -1, 0, 0}, {0, 28, 0, 0}, {0, 0, -1, 0}, {0, 0, 1440, 0},
            {0, 0, 0, -1}, {0, 0, 0, 10}, {LOW, LOW, HIGH, HIGH}};
        for (int[] b : bad) {
            fails("17 range", x, ARGUMENT, () -> x.ifTapped(b[0], b[1], b[2], b[3], true));
        }
    }

    private static void promises19To21() {
        CapWallets x = new CapWallets();
        is("19 none", x.leaky(), -1);
        is("20 none", x.leastCap(), 0);
        is("21 none", Double.doubleToLongBits(x.capShare()), Double.doubleToLongBits(1.0));
        x.tap(0, 0, 0, 3, true);
        x.tap(0, 0, 1, 3, false);
        is("19 no ride alone", x.leaky(), -1);
        x.tap(1, 0, 0, 9, true);
        is("19 one", x.leaky(), 9);
        x.tap(1, 0, 0, 8, false);
        x.tap(1, 0, 0, 7, false);
        x.tap(2, 0, 0, 4, false);
        is("19 the lowest", x.leaky(), 4);
        x.tap(2, 0, 0, 7, true);
        is("19 the most", x.leaky(), 7);
        is("20 the dearest week", x.leastCap(), 700);
        is("20 is least", x.set(5, x.leastCap()), 2800);
        is("20 costs as much", x.count(3), 180 + 600 + 700);
        x.set(5, 699);
        is("20 at the cap", x.leastCap(), 699);
        is("21", Double.doubleToLongBits(x.capShare()), Double.doubleToLongBits((180 + 600 + 699) / 1620.0));
        x.set(4, 0);
        is("20 free", x.leastCap(), 0);
        is("21 free", Double.doubleToLongBits(x.capShare()), Double.doubleToLongBits(0.0));
        for (int i = 0; i < 3; i++) {
            x.set(i, 0);
        }
        is("21 no fares", Double.doubleToLongBits(x.capShare()), Double.doubleToLongBits(1.0));
        CapWallets cent = new CapWallets();
        cent.set(2, 1);
        cent.tap(0, 0, 0, 0, true);
        cent.set(5, 0);
        is("21 a cent that is not paid", Double.doubleToLongBits(cent.capShare()), Double.doubleToLongBits(0.0));
    }

    private static long hashOf(CapWallets x, int[] settings, String buffer) {
        long h = 3023;
        for (int i = 0; i < 10; i++) {
            h = 31 * h + x.count(i);
        }
        for (int value : settings) {
            h = 31 * h + value;
        }
        for (int place = 0; place < x.count(0); place++) {
            for (int what = 0; what < 8; what++) {
                h = 31 * h + x.tapOf(place, what);
            }
        }
        for (int wallet = 0; wallet < 4; wallet++) {
            for (int day : new int[] {0, 6, 7, 27}) {
                for (int what = 0; what < 4; what++) {
                    h = 31 * h + x.day(wallet, day, what);
                }
            }
            for (int week = 0; week < 4; week++) {
                for (int what = 0; what < 7; what++) {
                    h = 31 * h + x.week(wallet, week, what);
                }
            }
            for (int back = 0; back < 8; back++) {
                h = 31 * h + x.ledger(wallet, back, 0);
                h = 31 * h + x.ledger(wallet, back, 1);
            }
        }
        for (int wallet = 0; wallet < 4; wallet++) {
            h = 31 * h + x.ifTapped(wallet, 6, 500, 4, true);
        }
        h = 31 * h + x.leaky();
        h = 31 * h + x.leastCap();
        h = 31 * h + Double.doubleToLongBits(x.capShare());
        h = 31 * h + buffer.length();
        for (int i = 0; i < buffer.length(); i++) {
            h = 31 * h + buffer.charAt(i);
        }
        return h;
    }

    /** Taps about the minute and the station of which the hash asks what a tap there would change. */
    private static void hashedLook() {
        int[] settings = {180, 60, 420, 120, 700, 2800};
        for (int wallet = 0; wallet < 4; wallet++) {
            for (int minute = 619; minute <= 622; minute++) {
                CapWallets x = new CapWallets();
                x.tap(wallet, 6, minute, wallet % 2 == 0 ? 3 : 6, false);
                is("22 ifTapped", x.digest(), hashOf(x, settings, ""));
            }
        }
    }

    private static void promise22() {
        hashedLook();
        int[] settings = {180, 60, 420, 120, 700, 2800};
        CapWallets x = new CapWallets();
        is("22 new", x.digest(), hashOf(x, settings, ""));
        type(x, "3d27:1439-9;x!~");
        is("22 buffer", x.digest(), hashOf(x, settings, "3d27:1439-9;x!~"));
        for (int i = 0; i < 60; i++) {
            x.tap(i % 4, i % 28, 7 * i, i % 10, i % 8 < 4);
            is("22 taps", x.digest(), hashOf(x, settings, "3d27:1439-9;x!~"));
        }
        for (int i = 0; i < 40; i++) {
            settings[4] = 37 * i;
            settings[5] = 90 * (i % 13);
            x.set(4, settings[4]);
            x.set(5, settings[5]);
            x.settle(i % 4);
            x.remove(i % 7);
            is("22 settled", x.digest(), hashOf(x, settings, "3d27:1439-9;x!~"));
        }
    }

    public static void main(String[] args) {
        promise1();
        promise2();
        rides();
        promise3();
        promises4And18();
        promises5And16();
        everyWeek();
        promise6();
        promises7And8();
        promise9();
        promise10();
        promise11();
        promise12();
        promises13To15();
        promise17();
        promises19To21();
        promise22();
        System.out.println(checks + " checks, " + wrong + " wrong");
        if (wrong != 0) {
            System.exit(1);
        }
    }
}
