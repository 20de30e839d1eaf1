import java.util.function.LongSupplier;
import java.util.function.Supplier;

/**
 * The sentences of promises 1 to 22 in DOC.md, each with a test of its own: ordinary inputs, both ends of what is
 * allowed, the first that is not, the empty and the full. What the promises' words mean is tested in TermsTest. No
 * object gets more than the 512 calls for which the document speaks.
 */
public final class PromisesTest {
    private static final Class<?> ARGUMENT = IllegalArgumentException.class;
    private static final Class<?> STATE = IllegalStateException.class;
    private static final Class<?> INDEX = IndexOutOfBoundsException.class;
    private static final int LOW = Integer.MIN_VALUE;
    private static final int HIGH = Integer.MAX_VALUE;

    private static String sentence = "";
    private static int sentences = 0;
    private static int checks = 0;
    private static int wrong = 0;

    private static void sentence(int promise, String words) {
        sentence = promise + " \"" + words + "\"";
        sentences++;
    }

    private static void is(String what, long got, long want) {
        checks++;
        if (got != want) {
            wrong++;
            System.out.println(sentence + ": " + what + " answered " + got + ", due is " + want);
        }
    }

    private static void is(String what, double got, double want) {
        is(what + " (its bits)", Double.doubleToLongBits(got), Double.doubleToLongBits(want));
    }

    /** The call throws just this, and the digest is the same behind it. */
    private static void fails(String what, CapWallets x, Class<?> due, LongSupplier call) {
        checks++;
        long before = x.digest();
        String got = "nothing";
        try {
            call.getAsLong();
        } catch (RuntimeException e) {
            got = e.getClass().getName();
        }
        if (!got.equals(due.getName())) {
            wrong++;
            System.out.println(sentence + ": " + what + " threw " + got + ", due is " + due.getName());
        }
        is(what + " leaves the digest", x.digest(), before);
    }

    private static void type(CapWallets x, String text) {
        x.clearBuffer();
        for (int i = 0; i < text.length(); i++) {
            x.append(text.charAt(i));
        }
    }

    private static void tapIs(CapWallets x, int place, int... want) {
        for (int i = 0; i < want.length; i++) {
            is("tapOf(" + place + ", " + i + ")", x.tapOf(place, i), want[i]);
        }
    }

    private static void dayIs(CapWallets x, int wallet, int day, int... want) {
        for (int i = 0; i < want.length; i++) {
            is("day(" + wallet + ", " + day + ", " + i + ")", x.day(wallet, day, i), want[i]);
        }
    }

    private static void weekIs(CapWallets x, int wallet, int week, int... want) {
        for (int i = 0; i < want.length; i++) {
            is("week(" + wallet + ", " + week + ", " + i + ")", x.week(wallet, week, i), want[i]);
        }
    }

    private static void countsAre(CapWallets x, int... want) {
        for (int i = 0; i < want.length; i++) {
            is("count(" + i + ")", x.count(i), want[i]);
        }
    }

    /** Taps in of wallet 0 on day 0, at the minutes 10, 20, and so on. */
    private static CapWallets withTaps(int taps) {
        CapWallets x = new CapWallets();
        for (int i = 1; i <= taps; i++) {
            x.tap(0, 0, 10 * i, i % 10, true);
        }
        return x;
    }

    private static final int[][] NO_TAPS = {{-1, 0, 0, 0}, {4, 0, 0, 0}, {0, -1, 0, 0}, {0, 28, 0, 0}, {0, 0, -1, 0},
        {0, 0, 1440, 0}, {0, 0, 0, -1}, {0, 0, 0, 10}, {LOW, 0, 0, 0}, {0, LOW, 0, 0}, {0, 0, LOW, 0}, {0, 0, 0, LOW},
        {HIGH, 0, 0, 0}, {0, HIGH, 0, 0}, {0, 0, HIGH, 0}, {0, 0, 0, HIGH}, {4, 28, 1440, 10}};

    // ---- taps

    private static void promise1() {
        sentence(1, "Creates gates without taps, with an empty buffer.");
        is("NONE", CapWallets.NONE, -1);
        CapWallets x = new CapWallets();
        countsAre(x, 0, 0, 0, 0, 0, 0, 0, 0, 0, 0);
        is("buffer", x.clearBuffer(), 0);
        is("firstError", x.firstError(), 0);
        fails("remove", x, INDEX, () -> x.remove(0));
        fails("load", x, ARGUMENT, x::load);
        fails("undo", x, STATE, x::undo);
        for (int wallet = 0; wallet <= 3; wallet++) {
            for (int week = 0; week <= 3; week++) {
                weekIs(x, wallet, week, 0, 0, 0, 0, 0, 0, 0);
            }
            for (int day = 0; day <= 27; day++) {
                is("rides", x.day(wallet, day, 0), 0);
            }
            is("ledger", x.ledger(wallet, 0, 0), -1);
        }
        int[] first = {180, 60, 420, 120, 700, 2800};
        for (int i = 0; i < 6; i++) {
            is("setting " + i, x.set(i, first[i]), first[i]);
        }
        CapWallets y = new CapWallets();
        x.tap(0, 0, 0, 0, true);
        x.append(48);
        x.settle(0);
        countsAre(y, 0, 0, 0, 0, 0, 0, 0, 0, 0, 0);
        is("the buffer of another object", y.clearBuffer(), 0);
        is("the ledger of another object", y.ledger(0, 0, 0), -1);
    }

    private static void promise2() {
        sentence(2, "Returns its place.");
        CapWallets x = new CapWallets();
        is("the first", x.tap(0, 27, 1439, 9, true), 0);
        is("a day ahead", x.tap(3, 0, 1439, 0, false), 0);
        is("a minute ahead", x.tap(1, 27, 1438, 9, false), 1);
        is("of the same time", x.tap(2, 27, 1438, 8, true), 2);
        is("of the same time", x.tap(2, 0, 1439, 1, true), 1);
        tapIs(x, 0, 3, 0, 1439, 0, 0, -1, 420, 0);
        tapIs(x, 1, 2, 0, 1439, 1, 1, -1, 420, 0);
        tapIs(x, 2, 1, 27, 1438, 9, 0, -1, 420, 0);
        tapIs(x, 3, 2, 27, 1438, 8, 1, -1, 420, 0);
        tapIs(x, 4, 0, 27, 1439, 9, 1, -1, 420, 0);
        is("the 60th, first", withTaps(59).tap(0, 0, 9, 0, true), 0);
        is("the 60th, between", withTaps(59).tap(0, 0, 10, 0, true), 1);
        is("the 60th, ahead of the last", withTaps(59).tap(0, 0, 589, 0, true), 58);
        is("the 60th, last", withTaps(59).tap(0, 0, 590, 0, true), 59);
        sentence(2, "Throws IllegalArgumentException if an argument is out of range");
        for (int[] b : NO_TAPS) {
            fails("in", x, ARGUMENT, () -> x.tap(b[0], b[1], b[2], b[3], true));
            fails("out", x, ARGUMENT, () -> x.tap(b[0], b[1], b[2], b[3], false));
        }
        is("the least of all", x.tap(0, 0, 0, 0, false), 0);
        is("the most of all", x.tap(3, 27, 1439, 9, true), 6);
        sentence(2, "Throws IllegalStateException if there are 60 taps");
        CapWallets full = withTaps(59);
        is("the 60th", full.tap(0, 0, 1000, 0, true), 59);
        fails("the 61st", full, STATE, () -> full.tap(0, 0, 1000, 0, true));
        full.remove(0);
        is("a place was made", full.tap(0, 0, 0, 0, true), 0);
        fails("and taken", full, STATE, () -> full.tap(0, 0, 0, 0, false));
        full.undo();
        is("undo makes a place, too", full.tap(3, 27, 1439, 0, true), 59);
    }

    private static void promise3() {
        sentence(3, "Takes a tap away. Undoable.");
        CapWallets x = withTaps(2);
        x.tap(0, 0, 30, 4, false);
        is("the first of a ride is the second", x.tapOf(2, 5), 1);
        x.remove(1);
        is("the next moves up", x.tapOf(1, 2), 30);
        is("and rides with the first", x.tapOf(1, 5), 0);
        is("undone", x.undo(), 3);
        is("as before", x.tapOf(1, 2), 20);
        sentence(3, "Returns how many there are then.");
        CapWallets full = withTaps(60);
        is("the last of 60", full.remove(59), 59);
        is("the last now", full.tapOf(58, 2), 590);
        is("the first", full.remove(0), 58);
        is("the first now", full.tapOf(0, 2), 20);
        for (int left = 57; left >= 0; left--) {
            is("left", full.remove(left / 2), left);
        }
        sentence(3, "Throws IndexOutOfBoundsException if there is no such tap");
        fails("of none", full, INDEX, () -> full.remove(0));
        for (int place : new int[] {-1, 3, 59, 60, 61, LOW, HIGH}) {
            fails("place " + place + " of 3", x, INDEX, () -> x.remove(place));
        }
        CapWallets y = withTaps(60);
        fails("place 60 of 60", y, INDEX, () -> y.remove(60));
        fails("place -1 of 60", y, INDEX, () -> y.remove(-1));
    }

    private static void promise4() {
        sentence(4, "Claims a ride alone. Undoable, also if it is refused.");
        CapWallets x = withTaps(2);
        is("refused", x.claim(0, 20, 3), 5);
        is("saved", x.count(9), 3);
        is("not refused", x.claim(0, 19, 3), 0);
        is("saved", x.count(9), 4);
        tapIs(x, 1, 0, 0, 19, 3, 0, 0, 240, 1);
        is("only the tap that was put in was claimed", x.tapOf(0, 7), 0);
        is("undo of the claim", x.undo(), 3);
        is("taps", x.count(0), 2);
        is("claims made", x.week(0, 0, 5), 0);
        is("undo of the refused one", x.undo(), 2);
        is("refused so far", x.count(7), 0);
        sentence(4, "Returns 0 if it is not refused; otherwise the reason.");
        is("reason 1", x.claim(2, 20, 0), 1);
        is("reason 2", x.claim(1, 19, 0), 2);
        is("reason 5", x.claim(1, 141, 0), 5);
        is("0", x.claim(1, 140, 9), 0);
        is("0", x.claim(0, 10, 0), 0);
        x.tap(0, 1, 0, 0, true);
        is("reason 3", x.claim(4, 0, 0), 3);
        is("reason 4", withTaps(60).claim(59, 600, 0), 4);
        refusedClaims();
        sentence(4, "Throws IllegalArgumentException if minute or station is out of range");
        for (int[] b : NO_TAPS) {
            if (b[0] == 0 && b[1] == 0) {
                fails("place 0", x, ARGUMENT, () -> x.claim(0, b[2], b[3]));
                fails("place -1", x, ARGUMENT, () -> x.claim(-1, b[2], b[3]));
                fails("place 60", x, ARGUMENT, () -> x.claim(60, b[2], b[3]));
            }
        }
    }

    /** All that a refused claim leaves as it is: all but the refusals and the saved states. */
    private static long lookOver(CapWallets x) {
        long hash = 0;
        int taps = x.count(0);
        for (int place = 0; place < taps; place++) {
            hash = 31 * hash + x.tapOf(place, 2);
        }
        for (int what = 0; what <= 8; what++) {
            hash = 31 * hash + (what == 7 ? 0 : x.count(what));
        }
        for (int what = 0; what <= 6; what++) {
            hash = 31 * hash + x.week(0, 0, what);
        }
        return 31 * hash + x.ledger(0, 0, 1);
    }

    private static void refusedClaim(CapWallets x, int place, int minute, int reason) {
        long before = lookOver(x);
        int refused = x.count(7);
        int saved = x.count(9);
        is("refused", x.claim(place, minute, 3), reason);
        is("all but the refusals, reason " + reason, lookOver(x), before);
        is("refusals", x.count(7), refused + 1);
        is("saved", x.count(9), saved == 6 ? 6 : saved + 1);
        is("undo", x.undo(), saved == 6 ? 5 : saved);
        is("as before, reason " + reason, lookOver(x), before);
        is("refusals", x.count(7), refused);
    }

    private static CapWallets claimedTwice(int taps) {
        CapWallets x = withTaps(taps);
        x.settle(0);
        x.claim(1, 20, 0);
        x.claim(0, 10, 0);
        x.tap(0, 6, 10, 0, true);
        return x;
    }

    private static void refusedClaims() {
        sentence(4, "Undoable, also if it is refused.");
        for (int taps : new int[] {2, 4, 5, 6, 8}) {
            refusedClaim(withTaps(taps), taps, 20, 1);
            refusedClaim(withTaps(taps), -1, 20, 1);
            refusedClaim(withTaps(taps), 0, 9, 2);
            refusedClaim(withTaps(taps), 0, 20, 5);
            refusedClaim(claimedTwice(taps), 0, 10, 1);
            refusedClaim(claimedTwice(taps), taps + 2, 10, 3);
        }
        refusedClaim(withTaps(60), 59, 600, 4);
    }

    private static CapWallets sixteenWeeks() {
        CapWallets x = new CapWallets();
        x.set(5, 9999);
        x.set(2, 100);
        for (int i = 0; i < 16; i++) {
            for (int n = 0; n <= i % 4; n++) {
                x.tap(i / 4, 7 * (i % 4) + i / 4, n, 0, true);
            }
        }
        return x;
    }

    private static void promise5() {
        sentence(5, "Settles a week of all wallets, by ascending numbers. Undoable, as one call.");
        CapWallets x = sixteenWeeks();
        for (int week = 3; week >= 0; week--) {
            is("week " + week, x.settle(week), 100000 + 400 * (week + 1));
        }
        is("all", x.count(4), 4000);
        for (int i = 0; i < 16; i++) {
            int sum = 100 * (i % 4 + 1);
            weekIs(x, i / 4, i % 4, i % 4 + 1, sum, sum, sum, sum, 0, 1);
            is("ledger", x.ledger(i / 4, i % 4, 0), i % 4);
        }
        is("without taps", new CapWallets().settle(0), 100000);
        x.settle(2);
        is("undone", x.undo(), 5);
        for (int wallet = 0; wallet <= 3; wallet++) {
            is("how often", x.week(wallet, 2, 6), 1);
            is("the latest", x.ledger(wallet, 0, 0), 0);
        }
        sentence(5, "Returns what is charged, plus 100000 (refunds less).");
        CapWallets y = new CapWallets();
        y.set(2, 999);
        y.set(4, 9999);
        y.set(5, 9999);
        for (int i = 0; i < 60; i++) {
            y.tap(i % 4, 3, 0, 0, true);
        }
        is("the most", y.settle(0), 100000 + 4 * 9999);
        is("nothing more", y.settle(0), 100000);
        y.set(5, 9998);
        is("four refunds of 1", y.settle(0), 99996);
        countsAre(y, 60, 60, 60, 4 * 9998, 4 * 9998, 4, 4);
        y.set(5, 0);
        is("the least", y.settle(0), 100000 - 4 * 9998);
        countsAre(y, 60, 60, 60, 0, 0, 8, 4 * 9999);
        CapWallets z = new CapWallets();
        z.tap(0, 0, 0, 0, true);
        z.settle(0);
        z.remove(0);
        z.tap(1, 0, 0, 0, true);
        is("a charge and a refund", z.settle(0), 100000);
        countsAre(z, 1, 1, 1, 420, 420, 1, 420);
        sentence(5, "Throws IllegalArgumentException if week is out of range");
        for (int week : new int[] {-1, 4, LOW, HIGH}) {
            fails("week " + week, x, ARGUMENT, () -> x.settle(week));
        }
    }

    private static void promise6() {
        sentence(6, "Changes a setting. Undoable.");
        CapWallets x = new CapWallets();
        x.tap(0, 0, 0, 0, true);
        x.set(4, 100);
        dayIs(x, 0, 0, 1, 1, 420, 100);
        x.set(5, 99);
        weekIs(x, 0, 0, 1, 420, 100, 99);
        is("undone", x.undo(), 2);
        is("as before", x.week(0, 0, 3), 100);
        sentence(6, "Returns the previous value.");
        is("after undo", x.set(5, 7), 2800);
        is("the same again", x.set(5, 7), 7);
        is("the last value", x.set(5, 8), 7);
        sentence(6, "Throws IndexOutOfBoundsException if there is no such setting");
        for (int setting : new int[] {-1, 6, LOW, HIGH}) {
            fails("setting " + setting, x, INDEX, () -> x.set(setting, 1));
            fails("setting " + setting + ", wrong value", x, INDEX, () -> x.set(setting, -1));
        }
        sentence(6, "Throws IllegalArgumentException if value is out of range");
        int[][] bad = {{0, -1}, {0, 1000}, {1, -1}, {1, 1000}, {2, -1}, {2, 1000}, {3, 0}, {3, 1440}, {4, -1}, {4, 10000},
            {5, -1}, {5, 10000}, {3, -1}, {0, LOW}, {5, HIGH}};
        for (int[] b : bad) {
            fails("setting " + b[0] + " to " + b[1], x, ARGUMENT, () -> x.set(b[0], b[1]));
        }
    }

    // ---- the buffer

    private static void promises7And8() {
        sentence(7, "Appends a character to the buffer.");
        CapWallets x = new CapWallets();
        type(x, "2d13:77-6");
        is("as they were appended", x.load(), 1);
        tapIs(x, 0, 2, 13, 77, 6, 0, -1, 420, 0);
        sentence(7, "Returns the new length of the buffer.");
        for (int i = 1; i <= 60; i++) {
            is("length", x.append(32 + i), i);
        }
        sentence(7, "Throws IllegalStateException if the buffer has 60 characters");
        fails("the 61st", x, STATE, () -> x.append(48));
        sentence(8, "Returns the length that it had.");
        is("60", x.clearBuffer(), 60);
        is("0", x.clearBuffer(), 0);
        is("again", x.append(48), 1);
        is("1", x.clearBuffer(), 1);
        is("nothing is saved", x.count(9), 1);
        sentence(7, "Throws IllegalArgumentException if code is not 33 to 126");
        for (int code = 33; code <= 126; code++) {
            is("code", x.append(code), 1);
            x.clearBuffer();
        }
        CapWallets y = new CapWallets();
        for (int code : new int[] {32, 127, 0, -1, 10, 128, 33 + 65536, LOW, HIGH}) {
            fails("code " + code, y, ARGUMENT, () -> y.append(code));
        }
        type(y, "............................................................");
        for (int code : new int[] {32, 127, LOW, HIGH}) {
            fails("code " + code + ", full", y, ARGUMENT, () -> y.append(code));
        }
        is("still full", y.clearBuffer(), 60);
        sentence(8, "Clears the buffer.");
        is("no characters", y.firstError(), 0);
        is("a new first one", y.append(88), 1);
        is("is at 0", y.firstError(), 0);
    }

    private static void promise9() {
        sentence(9, "Returns the index of the first character that is a syntax error; the length of the buffer if there is none.");
        is("the empty buffer", new CapWallets().firstError(), 0);
        String[] right = {"0d0:0+0", "3d27:1439-9", "1d9:999+5;2d19:1399-0", "0d10:10+0;0d20:100-1;0d1:1+1"};
        for (String text : right) {
            CapWallets x = new CapWallets();
            for (int i = 0; i < text.length(); i++) {
                x.append(text.charAt(i));
                is(text, x.firstError(), i + 1);
            }
        }
        String[] errors = {"4", "d", "-", ";", "0D", "00", "0d-", "0da", "0d00", "0d28", "0d100", "0d271", "0d0+", "0d0;", "0d0:+",
            "0d0:-", "0d0:00", "0d0:1440", "0d0:2000", "0d0:14390", "0d0:1:", "0d0:0+a", "0d0:0++", "0d0:0+;", "0d0:0+00",
            "0d0:0+0;;", "0d0:0+0;4", "0d:", "0d1;", "0d0::", "0d0:12;", "0d0:1+:", "0d0:0+0;d", "1d5:77-3;2d28"};
        for (String text : errors) {
            CapWallets x = new CapWallets();
            type(x, text);
            is(text, x.firstError(), text.length() - 1);
            x.append('!');
            is(text + "!", x.firstError(), text.length() - 1);
            is("the buffer stays", x.clearBuffer(), text.length() + 1);
            is("nothing is saved", x.count(9), 0);
        }
    }

    private static int loadsWith(int taps, String text) {
        CapWallets x = withTaps(taps);
        type(x, text);
        int come = x.load();
        is("taps", x.count(0), taps + come);
        is("cleared", x.clearBuffer(), 0);
        x.undo();
        is("undone as one call", x.count(0), taps);
        return come;
    }

    private static void promise10() {
        sentence(10, "Lets the taps in the buffer come, one after the other, as long as there are fewer than 60");
        String seven = "0d0:0+0;0d0:0+1;0d0:0+2;0d0:0+3;0d0:0+4;0d0:0+5;0d0:0+6";
        for (int taps : new int[] {0, 1, 52, 53, 54, 55, 58, 59, 60}) {
            is("with " + taps + " taps", loadsWith(taps, seven), taps <= 53 ? 7 : 60 - taps);
        }
        CapWallets x = withTaps(58);
        type(x, "2d27:1439+7;2d0:0-8;2d27:1439+9");
        is("two come", x.load(), 2);
        is("the second of them", x.tapOf(0, 3), 8);
        is("the first of them", x.tapOf(59, 3), 7);
        CapWallets y = new CapWallets();
        type(y, seven);
        is("seven come", y.load(), 7);
        for (int i = 0; i < 7; i++) {
            is("in their order", y.tapOf(i, 3), i);
        }
        type(y, "1d2:30-4;3d27:1439+9;1d2:29+5;1d2:30+6");
        is("four come", y.load(), 4);
        tapIs(y, 7, 1, 2, 29, 5, 1, 8, 180, 0);
        tapIs(y, 8, 1, 2, 30, 4, 0, 7, 180, 0);
        tapIs(y, 9, 1, 2, 30, 6, 1, -1, 420, 0);
        tapIs(y, 10, 3, 27, 1439, 9, 1, -1, 420, 0);
        sentence(10, "and clears the buffer. Undoable, as one call, also if none comes.");
        is("cleared", y.clearBuffer(), 0);
        is("undone", y.undo(), 1);
        is("taps", y.count(0), 7);
        CapWallets full = withTaps(60);
        type(full, "0d0:0+0");
        long taps = full.tapOf(0, 2);
        is("none comes", full.load(), 0);
        is("cleared", full.clearBuffer(), 0);
        is("undo", full.undo(), 5);
        is("taps as before", full.count(0), 60);
        is("taps as before", full.tapOf(0, 2), taps);
        full.undo();
        is("the tap before", full.count(0), 59);
        sentence(10, "Throws IllegalArgumentException if the buffer does not tell taps as a text");
        String whole = "0d10:100+0;1d2:3-4";
        for (int length = 0; length <= whole.length(); length++) {
            CapWallets z = new CapWallets();
            type(z, whole.substring(0, length));
            if (length == 10 || length == 18) {
                is("whole", z.load(), length == 10 ? 1 : 2);
            } else {
                fails(length + " characters", z, ARGUMENT, z::load);
                is("the buffer stays", z.clearBuffer(), length);
            }
        }
        CapWallets z = withTaps(60);
        type(z, "0d0:0+0;");
        fails("of the full", z, ARGUMENT, z::load);
        type(z, "4d0:0+0");
        fails("of the full", z, ARGUMENT, z::load);
    }

    private static void promise11() {
        sentence(11, "Restores the latest saved state, and drops it.");
        CapWallets x = withTaps(9);
        for (int i = 8; i >= 3; i--) {
            is("left", x.undo(), i - 3);
            is("taps", x.count(0), i);
            is("saved", x.count(9), i - 3);
        }
        sentence(11, "Throws IllegalStateException if there is none");
        fails("a seventh", x, STATE, x::undo);
        fails("an eighth", x, STATE, x::undo);
        CapWallets y = new CapWallets();
        fails("of a new object", y, STATE, y::undo);
        y.append(48);
        fails("the buffer saves nothing", y, STATE, y::undo);
        sentence(11, "Returns how many saved states are left.");
        y.set(0, 0);
        is("of 1", y.undo(), 0);
        for (int i = 0; i < 7; i++) {
            y.set(0, i);
        }
        is("of 6", y.undo(), 5);
        is("the value of the one before", y.set(0, 100), 5);
        is("of 6 again", y.undo(), 5);
    }

    // ---- looks

    private static void promise12() {
        sentence(12, "5: the place of the tap with which it makes a ride, NONE without one; 6: the fare of its ride");
        CapWallets x = new CapWallets();
        x.tap(3, 20, 1439, 7, false);
        tapIs(x, 0, 3, 20, 1439, 7, 0, -1, 420, 0);
        x.tap(3, 20, 1438, 0, true);
        tapIs(x, 0, 3, 20, 1438, 0, 1, 1, 360, 0);
        tapIs(x, 1, 3, 20, 1439, 7, 0, 0, 360, 0);
        x.tap(0, 0, 0, 0, true);
        x.tap(1, 20, 1438, 1, true);
        tapIs(x, 1, 3, 20, 1438, 0, 1, 3, 360, 0);
        tapIs(x, 2, 1, 20, 1438, 1, 1, -1, 420, 0);
        tapIs(x, 3, 3, 20, 1439, 7, 0, 1, 360, 0);
        CapWallets full = new CapWallets();
        for (int i = 0; i < 60; i++) {
            full.tap(0, 0, i, i % 10, i % 2 == 0);
        }
        is("the ride of the first", full.tapOf(0, 5), 1);
        is("the ride of the last", full.tapOf(59, 5), 58);
        sentence(12, "7: 1 if it was claimed, otherwise 0");
        CapWallets y = withTaps(1);
        y.claim(0, 10, 0);
        is("the tap that the claim put in", y.tapOf(1, 7), 1);
        is("the other tap of the ride", y.tapOf(0, 7), 0);
        y.remove(0);
        is("it stays so without the other", y.tapOf(0, 7), 1);
        is("and it is alone", y.tapOf(0, 5), -1);
        sentence(12, "Throws IndexOutOfBoundsException if there is no such tap");
        for (int place : new int[] {-1, 4, 60, 61, LOW, HIGH}) {
            fails("place " + place, x, INDEX, () -> x.tapOf(place, 0));
            fails("place " + place + ", wrong what", x, INDEX, () -> x.tapOf(place, 8));
        }
        fails("place 60 of 60", full, INDEX, () -> full.tapOf(60, 0));
        CapWallets empty = new CapWallets();
        fails("place 0 of none", empty, INDEX, () -> empty.tapOf(0, 0));
        sentence(12, "Throws IllegalArgumentException if what is not 0 to 7");
        for (int what : new int[] {-1, 8, LOW, HIGH}) {
            fails("what " + what, x, ARGUMENT, () -> x.tapOf(0, what));
            fails("what " + what + " of the last", x, ARGUMENT, () -> x.tapOf(3, what));
        }
    }

    private static void promise13() {
        sentence(13, "0: rides; 1: those alone; 2: the fares of all together; 3: what it costs");
        CapWallets x = new CapWallets();
        x.tap(1, 6, 0, 0, true);
        x.tap(1, 6, 5, 9, false);
        x.tap(1, 6, 6, 9, false);
        x.tap(1, 7, 6, 9, false);
        x.tap(0, 6, 3, 9, false);
        dayIs(x, 1, 6, 2, 1, 840, 700);
        dayIs(x, 1, 7, 1, 1, 420, 420);
        dayIs(x, 0, 6, 1, 1, 420, 420);
        dayIs(x, 2, 6, 0, 0, 0, 0);
        dayIs(x, 1, 5, 0, 0, 0, 0);
        CapWallets full = withTaps(60);
        full.set(2, 999);
        full.set(4, 9999);
        dayIs(full, 0, 0, 60, 60, 59940, 9999);
        sentence(13, "Throws IllegalArgumentException if an argument is out of range");
        int[][] bad = {{-1, 0, 0}, {4, 0, 0}, {0, -1, 0}, {0, 28, 0}, {0, 0, -1}, {0, 0, 4}, {HIGH, 0, 0}, {0, HIGH, 0},
            {0, 0, HIGH}, {LOW, 0, 0}, {0, LOW, 0}, {0, 0, LOW}};
        for (int[] b : bad) {
            fails("day(" + b[0] + ", " + b[1] + ", " + b[2] + ")", x, ARGUMENT, () -> x.day(b[0], b[1], b[2]));
        }
        dayIs(x, 3, 27, 0, 0, 0, 0);
    }

    private static void promise14() {
        sentence(14, "0: rides; 1: the fares of all together; 2: the costs of its days together; 3: what it costs; 4: what was"
            + " charged for it; 5: claims made; 6: how often it was settled");
        CapWallets x = new CapWallets();
        x.tap(1, 7, 0, 0, true);
        x.tap(1, 7, 0, 0, true);
        x.tap(1, 13, 0, 0, true);
        x.tap(1, 6, 0, 0, true);
        x.tap(1, 14, 0, 0, false);
        x.set(5, 1119);
        weekIs(x, 1, 1, 3, 1260, 1120, 1119, 0, 0, 0);
        x.settle(1);
        x.settle(1);
        is("claim", x.claim(3, 0, 0), 0);
        weekIs(x, 1, 1, 3, 1020, 880, 880, 1119, 1, 2);
        weekIs(x, 1, 0, 1, 420, 420, 420, 0, 0, 0);
        weekIs(x, 1, 2, 1, 420, 420, 420, 0, 0, 0);
        weekIs(x, 0, 1, 0, 0, 0, 0, 0, 0, 2);
        weekIs(x, 3, 3, 0, 0, 0, 0, 0, 0, 0);
        sentence(14, "5: claims made");
        for (int i = 0; i < 16; i++) {
            CapWallets y = new CapWallets();
            y.tap(i / 4, 7 * (i % 4) + 6, 500, 4, true);
            is("claim", y.claim(0, 510, 4), 0);
            for (int j = 0; j < 16; j++) {
                is("claims", y.week(j / 4, j % 4, 5), i == j ? 1 : 0);
            }
        }
        sentence(14, "Throws IllegalArgumentException if an argument is out of range");
        int[][] bad = {{-1, 0, 0}, {4, 0, 0}, {0, -1, 0}, {0, 4, 0}, {0, 0, -1}, {0, 0, 7}, {HIGH, 0, 0}, {0, HIGH, 0},
            {0, 0, HIGH}, {LOW, 0, 0}, {0, LOW, 0}, {0, 0, LOW}};
        for (int[] b : bad) {
            fails("week(" + b[0] + ", " + b[1] + ", " + b[2] + ")", x, ARGUMENT, () -> x.week(b[0], b[1], b[2]));
        }
    }

    private static void promise15() {
        sentence(15, "0: taps; 1: rides; 2: rides alone; 3: what all weeks cost");
        CapWallets x = new CapWallets();
        x.tap(1, 6, 0, 0, true);
        x.tap(1, 6, 5, 9, false);
        x.tap(1, 6, 6, 9, false);
        x.tap(1, 7, 6, 9, false);
        x.tap(0, 6, 3, 9, false);
        countsAre(x, 5, 4, 3, 700 + 420 + 420, 0, 0, 0, 0, 0, 5);
        for (int i = 0; i < 16; i++) {
            CapWallets week = new CapWallets();
            week.tap(i / 4, 7 * (i % 4), 0, 0, true);
            week.tap(i / 4, 7 * (i % 4) + 6, 0, 0, true);
            countsAre(week, 2, 2, 2, 840, 0, 0, 0, 0, 0, 2);
            is("leastCap", week.leastCap(), 840);
            is("capShare", week.capShare(), 1.0);
        }
        countsAre(sixteenWeeks(), 40, 40, 40, 4000);
        sentence(15, "4: what was charged for all; 5: refunds so far, how often; 6: what was refunded so far");
        x.settle(1);
        countsAre(x, 5, 4, 3, 1540, 420, 0, 0, 0, 0, 6);
        x.settle(0);
        countsAre(x, 5, 4, 3, 1540, 1540, 0, 0, 0, 0, 6);
        x.set(5, 400);
        countsAre(x, 5, 4, 3, 1200, 1540, 0, 0, 0, 3, 6);
        x.settle(0);
        countsAre(x, 5, 4, 3, 1200, 1220, 2, 320, 0, 1, 6);
        x.settle(0);
        countsAre(x, 5, 4, 3, 1200, 1220, 2, 320, 0, 1, 6);
        x.settle(1);
        countsAre(x, 5, 4, 3, 1200, 1200, 3, 340, 0, 0, 6);
        sentence(15, "7: claims refused so far");
        x.claim(5, 0, 0);
        x.whyNot(5, 0, 0);
        is("one", x.count(7), 1);
        is("not refused", x.claim(3, 5, 0), 0);
        is("still one", x.count(7), 1);
        sentence(15, "8: weeks of wallets that were settled, and cost another sum than what was charged");
        CapWallets y = sixteenWeeks();
        is("none was settled", y.count(8), 0);
        for (int week = 0; week <= 3; week++) {
            y.settle(week);
            y.set(2, 99);
            is("4 of each that was settled", y.count(8), 4 * (week + 1));
            y.set(2, 100);
            is("as charged", y.count(8), 0);
        }
        CapWallets z = new CapWallets();
        z.settle(0);
        z.tap(0, 0, 0, 0, true);
        is("settled at 0, and costs more now", z.count(8), 1);
        z.tap(0, 7, 0, 0, true);
        is("another week was not settled", z.count(8), 1);
        z.set(2, 0);
        is("costs 0 again", z.count(8), 0);
        sentence(15, "Throws IllegalArgumentException if what is not 0 to 9");
        for (int what : new int[] {-1, 10, LOW, HIGH}) {
            fails("what " + what, x, ARGUMENT, () -> x.count(what));
        }
    }

    private static void promise16() {
        sentence(16, "0 for the latest entry, and so on, up to 7 (older ones are forgotten)");
        for (int entries = 0; entries <= 10; entries++) {
            CapWallets x = new CapWallets();
            for (int wallet = 0; wallet <= 3; wallet++) {
                x.tap(wallet, 27 - 7 * wallet, 0, 0, true);
            }
            for (int i = 0; i < entries; i++) {
                x.set(2, 100 + i * i);
                x.settle(3 - i % 4);
            }
            for (int back = 0; back <= 7; back++) {
                int entry = entries - 1 - back;
                for (int wallet = 0; wallet <= 3; wallet++) {
                    int before = entry >= 4 ? 100 + (entry - 4) * (entry - 4) : 0;
                    int sum = entry % 4 == wallet ? 100 + entry * entry - before : 0;
                    is("the week, entry " + entry, x.ledger(wallet, back, 0), entry < 0 ? -1 : 3 - entry % 4);
                    is("the sum, entry " + entry, x.ledger(wallet, back, 1), entry < 0 ? -1 : 100000 + sum);
                }
            }
        }
        sentence(16, "1: what was charged, plus 100000");
        CapWallets y = new CapWallets();
        y.set(2, 999);
        y.set(4, 9999);
        y.set(5, 9999);
        for (int i = 0; i < 11; i++) {
            y.tap(3, 27, 0, 0, true);
        }
        y.settle(3);
        is("the most", y.ledger(3, 0, 1), 109999);
        y.set(5, 0);
        y.settle(3);
        is("the least", y.ledger(3, 0, 1), 90001);
        is("its week", y.ledger(3, 0, 0), 3);
        sentence(16, "Throws IllegalArgumentException if an argument is out of range");
        int[][] bad = {{-1, 0, 0}, {4, 0, 0}, {0, -1, 0}, {0, 8, 0}, {0, 0, -1}, {0, 0, 2}, {HIGH, 0, 0}, {0, HIGH, 0},
            {0, 0, HIGH}, {LOW, 0, 0}, {0, LOW, 0}, {0, 0, LOW}};
        for (int[] b : bad) {
            fails("ledger(" + b[0] + ", " + b[1] + ", " + b[2] + ")", y, ARGUMENT, () -> y.ledger(b[0], b[1], b[2]));
        }
    }

    // ---- what would be

    private static void promise17() {
        sentence(17, "Returns by how much what its week costs would be more, plus 100000");
        CapWallets x = new CapWallets();
        x.tap(0, 6, 500, 1, true);
        long before = x.digest();
        is("it makes a ride", x.ifTapped(0, 6, 500, 2, false), 100000 + 240 - 420);
        is("the last minute of it", x.ifTapped(0, 6, 620, 0, false), 100000 + 180 - 420);
        is("a minute later, up to the cap", x.ifTapped(0, 6, 621, 0, false), 100280);
        is("ahead of it", x.ifTapped(0, 6, 499, 2, false), 100280);
        is("another day", x.ifTapped(0, 5, 501, 2, false), 100420);
        is("another week", x.ifTapped(0, 7, 501, 2, false), 100420);
        is("another wallet", x.ifTapped(1, 6, 501, 2, false), 100420);
        is("behind those of its time", x.ifTapped(0, 6, 500, 2, true), 100280);
        is("nothing is changed", x.digest(), before);
        x.set(5, 419);
        is("at the cap", x.ifTapped(0, 6, 0, 2, true), 100000);
        is("from the cap", x.ifTapped(0, 6, 500, 2, false), 100000 + 240 - 419);
        x.set(5, 0);
        is("no cost", x.ifTapped(0, 6, 0, 2, true), 100000);
        CapWallets y = new CapWallets();
        y.set(2, 999);
        y.set(0, 0);
        y.set(4, 9999);
        y.tap(3, 27, 1439, 9, true);
        is("the most", y.ifTapped(3, 27, 0, 0, true), 100999);
        is("the least", y.ifTapped(3, 27, 1439, 9, false), 99001);
        y.tap(3, 27, 1439, 9, false);
        is("it parts a ride", y.ifTapped(3, 27, 1438, 0, false), 100999);
        sentence(17, "(there may be 60 taps already).");
        CapWallets full = withTaps(60);
        full.set(2, 100);
        full.set(4, 9999);
        full.set(5, 9999);
        before = full.digest();
        is("the first place", full.ifTapped(0, 0, 0, 0, true), 100100);
        is("a place between", full.ifTapped(0, 0, 300, 0, false), 100080);
        is("the last place", full.ifTapped(0, 0, 600, 0, false), 100080);
        is("another day", full.ifTapped(3, 27, 1439, 9, false), 100100);
        is("still 60 taps", full.count(0), 60);
        is("nothing is changed", full.digest(), before);
        sentence(17, "Throws IllegalArgumentException if an argument is out of range");
        for (int[] b : NO_TAPS) {
            fails("in", x, ARGUMENT, () -> x.ifTapped(b[0], b[1], b[2], b[3], true));
            fails("out", x, ARGUMENT, () -> x.ifTapped(b[0], b[1], b[2], b[3], false));
        }
    }

    private static void promise18() {
        sentence(18, "Returns 0 if it would not; otherwise the reason.");
        CapWallets x = withTaps(2);
        long before = x.digest();
        is("reason 1", x.whyNot(2, 20, 0), 1);
        is("reason 1", x.whyNot(-1, 20, 0), 1);
        is("reason 2", x.whyNot(1, 19, 0), 2);
        is("reason 5", x.whyNot(1, 141, 0), 5);
        is("0", x.whyNot(1, 140, 9), 0);
        is("nothing is changed", x.digest(), before);
        is("nothing is saved", x.count(9), 2);
        is("reason 4", withTaps(60).whyNot(59, 600, 0), 4);
        x.claim(1, 20, 0);
        x.claim(0, 10, 0);
        x.tap(0, 6, 0, 0, true);
        is("reason 3", x.whyNot(4, 0, 0), 3);
        sentence(18, "Throws IllegalArgumentException if minute or station is out of range");
        for (int[] b : NO_TAPS) {
            if (b[0] == 0 && b[1] == 0) {
                fails("place 0", x, ARGUMENT, () -> x.whyNot(0, b[2], b[3]));
                fails("place -1", x, ARGUMENT, () -> x.whyNot(-1, b[2], b[3]));
            }
        }
    }

    private static void promise19() {
        sentence(19, "Returns the station, of several the lowest; NONE if no ride is alone.");
        CapWallets x = new CapWallets();
        is("without taps", x.leaky(), -1);
        x.tap(0, 0, 0, 3, true);
        x.tap(0, 0, 1, 3, false);
        is("no ride is alone", x.leaky(), -1);
        x.tap(1, 0, 0, 9, true);
        is("one", x.leaky(), 9);
        x.tap(1, 0, 0, 8, true);
        x.tap(1, 0, 0, 7, true);
        x.tap(2, 0, 0, 4, false);
        is("four with one each", x.leaky(), 4);
        x.tap(2, 0, 0, 9, true);
        is("two at 9", x.leaky(), 9);
        x.tap(2, 1, 0, 7, true);
        is("two at 7 and at 9", x.leaky(), 7);
        x.tap(3, 0, 0, 9, false);
        is("three at 9", x.leaky(), 9);
        x.tap(3, 1, 0, 0, true);
        x.tap(3, 2, 0, 0, false);
        x.tap(3, 3, 0, 0, true);
        is("three at 0 and at 9", x.leaky(), 0);
        is("60 at 5", sixtyAt(5).leaky(), 5);
    }

    private static CapWallets sixtyAt(int station) {
        CapWallets x = new CapWallets();
        for (int i = 0; i < 60; i++) {
            x.tap(0, 0, 0, station, true);
        }
        return x;
    }

    /** The cap answers the same sum, and one less does not. */
    private static void leastCapIs(CapWallets x, int want) {
        int now = x.count(3);
        is("leastCap", x.leastCap(), want);
        x.set(5, want);
        is("with " + want, x.count(3), now);
        x.undo();
        if (want > 0) {
            x.set(5, want - 1);
            is("with " + (want - 1), x.count(3) < now ? 1 : 0, 1);
            x.undo();
        }
    }

    private static void promise20() {
        sentence(20, "Returns the least setting 5 with which all weeks together would cost as much as now.");
        CapWallets x = new CapWallets();
        leastCapIs(x, 0);
        x.tap(2, 20, 0, 0, true);
        leastCapIs(x, 420);
        x.tap(3, 27, 0, 0, true);
        x.tap(3, 27, 1, 0, false);
        leastCapIs(x, 420);
        x.tap(3, 26, 1, 0, false);
        leastCapIs(x, 600);
        x.tap(0, 0, 0, 0, true);
        x.tap(0, 1, 0, 0, true);
        leastCapIs(x, 840);
        x.set(5, 841);
        leastCapIs(x, 840);
        x.set(5, 840);
        leastCapIs(x, 840);
        x.set(5, 839);
        leastCapIs(x, 839);
        x.set(5, 1);
        leastCapIs(x, 1);
        x.set(5, 0);
        leastCapIs(x, 0);
        CapWallets y = sixtyAt(0);
        y.set(2, 999);
        y.set(4, 9999);
        y.set(5, 9999);
        leastCapIs(y, 9999);
        y.set(2, 0);
        leastCapIs(y, 0);
    }

    private static void promise21() {
        sentence(21, "Returns what all weeks cost, as a double, divided by all fares together; 1.0 if these are 0.");
        CapWallets x = new CapWallets();
        is("without taps", x.capShare(), 1.0);
        x.tap(0, 0, 0, 0, true);
        is("no cap", x.capShare(), 1.0);
        x.tap(0, 0, 1, 0, true);
        is("the cap of a day", x.capShare(), 700 / 840.0);
        x.tap(1, 7, 1, 0, true);
        is("another wallet and week", x.capShare(), 1120 / 1260.0);
        x.set(5, 1);
        is("the cap of a week", x.capShare(), 2 / 1260.0);
        x.set(5, 0);
        is("costs of 0", x.capShare(), 0.0);
        x.set(2, 0);
        is("fares of 0", x.capShare(), 1.0);
        x.set(2, 1);
        is("a fare of 1 that is not paid", x.capShare(), 0.0);
        x.set(5, 1);
        is("a third is not paid", x.capShare(), 2 / 3.0);
        CapWallets cent = new CapWallets();
        cent.tap(0, 0, 0, 0, true);
        cent.set(2, 1);
        is("fares of 1, paid", cent.capShare(), 1.0);
        cent.set(4, 0);
        is("fares of 1, not paid", cent.capShare(), 0.0);
        CapWallets y = sixtyAt(0);
        y.set(2, 999);
        y.set(4, 1);
        is("the least share that is not 0", y.capShare(), 1 / 59940.0);
    }

    /** Looks at objects built alike, as no single one may be asked for all that the hash needs. */
    private static final class Looks {
        private static final int MOST = 150;
        private final Supplier<CapWallets> builder;
        private CapWallets built;
        private int left = 0;

        Looks(Supplier<CapWallets> builder) {
            this.builder = builder;
        }

        CapWallets at() {
            if (left == 0) {
                built = builder.get();
                left = MOST;
            }
            left--;
            return built;
        }
    }

    private static long hashOf(Looks looks, int[] settings, String buffer) {
        long h = 3023;
        for (int i = 0; i < 10; i++) {
            h = 31 * h + looks.at().count(i);
        }
        for (int value : settings) {
            h = 31 * h + value;
        }
        for (int place = 0; place < looks.at().count(0); place++) {
            for (int what = 0; what < 8; what++) {
                h = 31 * h + looks.at().tapOf(place, what);
            }
        }
        for (int wallet = 0; wallet < 4; wallet++) {
            for (int day : new int[] {0, 6, 7, 27}) {
                for (int what = 0; what < 4; what++) {
                    h = 31 * h + looks.at().day(wallet, day, what);
                }
            }
            for (int i = 0; i < 28; i++) {
                h = 31 * h + looks.at().week(wallet, i / 7, i % 7);
            }
            for (int i = 0; i < 16; i++) {
                h = 31 * h + looks.at().ledger(wallet, i / 2, i % 2);
            }
        }
        for (int wallet = 0; wallet < 4; wallet++) {
            h = 31 * h + looks.at().ifTapped(wallet, 6, 500, 4, true);
        }
        h = 31 * h + looks.at().leaky();
        h = 31 * h + looks.at().leastCap();
        h = 31 * h + Double.doubleToLongBits(looks.at().capShare());
        h = 31 * h + buffer.length();
        for (int i = 0; i < buffer.length(); i++) {
            h = 31 * h + buffer.charAt(i);
        }
        return h;
    }

    private static void digestIs(String what, int[] settings, String buffer, Supplier<CapWallets> builder) {
        is(what, builder.get().digest(), hashOf(new Looks(builder), settings, buffer));
    }

    private static final int[] FIRST = {180, 60, 420, 120, 700, 2800};

    private static void promise22() {
        sentence(22, "The hash starts at 3023. For each value v of the following list, in order, the hash becomes 31 * hash + v");
        digestIs("new", FIRST, "", CapWallets::new);
        sentence(22, "the settings 0 to 5");
        int[][] ends = {{0, 0, 0, 1, 0, 0}, {999, 999, 999, 1439, 9999, 9999}, {1, 2, 3, 4, 5, 6}};
        for (int[] settings : ends) {
            digestIs("settings", settings, "", () -> withSettings(settings));
        }
        sentence(22, "for each tap its properties 0 to 7");
        for (int taps : new int[] {1, 2, 7, 30, 59, 60}) {
            digestIs(taps + " taps", FIRST, "", () -> mixedTaps(taps));
        }
        sentence(22, "for each wallet: for the days 0, 6, 7 and 27 its numbers 0 to 3, for each week its numbers 0 to 6");
        for (int i = 0; i < 4 * 28; i++) {
            int wallet = i % 4;
            int day = i / 4;
            digestIs("a ride on day " + day, FIRST, "", () -> withRide(wallet, day));
        }
        sentence(22, "and the ledger back 0 to 7, each with 0 and 1");
        for (int entries = 0; entries <= 10; entries++) {
            int settles = entries;
            int[] settings = entries == 0 ? FIRST : new int[] {180, 60, 400 + 10 * (settles - 1), 120, 700, 2800};
            digestIs(entries + " entries", settings, "", () -> settled(settles));
        }
        sentence(22, "ifTapped of each wallet on the day 6, at the minute 500, the station 4, in");
        for (int i = 0; i < 16; i++) {
            int wallet = i / 4;
            int minute = 619 + i % 4;
            digestIs("an out at " + minute, FIRST, "", () -> withOut(wallet, minute));
        }
        sentence(22, "the bits of capShare (as Double.doubleToLongBits)");
        for (int cap = 0; cap <= 840; cap += 7) {
            int c = cap;
            digestIs("a cap of " + cap, new int[] {180, 60, 420, 120, cap, 2800}, "", () -> withDayCap(c));
        }
        sentence(22, "the length of the buffer and each of its character codes.");
        String text = "!\"#$%&'()*+,-./0123456789:;<=>?@ABCDEFGHIJKLMNOPQRSTUVWXYZ[~";
        for (int length = 0; length <= 60; length++) {
            String buffer = text.substring(0, length);
            digestIs("a buffer of " + length, FIRST, buffer, () -> withBuffer(buffer));
        }
        sentence(22, "Computes a hash of the whole state.");
        CapWallets x = mixedTaps(60);
        long before = x.digest();
        is("it changes nothing", x.digest(), before);
        is("it saves nothing", x.count(9), 6);
        digestIs("all at once", new int[] {180, 60, 430, 120, 700, 2800}, "x", () -> withBufferOn(settled(4), "x"));
    }

    private static CapWallets withSettings(int[] settings) {
        CapWallets x = withRide(1, 6);
        for (int i = 0; i < 6; i++) {
            x.set(i, settings[i]);
        }
        return x;
    }

    private static CapWallets mixedTaps(int taps) {
        CapWallets x = new CapWallets();
        for (int i = 0; i < taps; i++) {
            x.tap(i * 7 % 4, i * 5 % 28, (i * 37) % 1440, i * 3 % 10, i % 8 < 4);
            if (i % 9 == 8) {
                x.claim(i / 2, x.tapOf(i / 2, 2), i % 10);
            }
            if (x.count(0) == 60) {
                break;
            }
        }
        return x;
    }

    private static CapWallets withRide(int wallet, int day) {
        CapWallets x = new CapWallets();
        x.tap(wallet, day, 480, 1, true);
        x.tap(wallet, day, 490, 6, false);
        x.tap(wallet, day, 491, 7, false);
        x.claim(2, 491, 0);
        x.claim(2, 490, 0);
        x.tap(wallet, day, 499, 0, true);
        return x;
    }

    private static CapWallets settled(int settles) {
        CapWallets x = new CapWallets();
        for (int i = 0; i < 4; i++) {
            x.tap(i, 7 * i, 0, 0, true);
        }
        for (int i = 0; i < settles; i++) {
            x.set(2, 400 + 10 * i);
            x.settle(i * i % 4);
        }
        return x;
    }

    private static CapWallets withOut(int wallet, int minute) {
        CapWallets x = new CapWallets();
        x.tap(wallet, 6, minute, wallet % 2 == 0 ? 3 : 6, false);
        return x;
    }

    private static CapWallets withDayCap(int cap) {
        CapWallets x = withTaps(2);
        x.set(4, cap);
        return x;
    }

    private static CapWallets withBuffer(String text) {
        return withBufferOn(new CapWallets(), text);
    }

    private static CapWallets withBufferOn(CapWallets x, String text) {
        type(x, text);
        return x;
    }

    private static void looksChangeNothing() {
        sentence(12, "looks; nothing is changed");
        CapWallets x = settled(6);
        type(x, "0d0:0+0");
        long before = x.digest();
        LongSupplier[] looks = {() -> x.tapOf(0, 5), () -> x.day(0, 0, 3), () -> x.week(0, 0, 3), () -> x.count(8),
            () -> x.ledger(0, 0, 0), () -> x.ifTapped(0, 0, 0, 0, false), () -> x.ifTapped(3, 27, 1439, 9, true),
            () -> x.whyNot(0, 0, 0), () -> x.whyNot(9, 0, 0), x::leaky, x::leastCap, () -> (long) x.capShare(), x::digest,
            x::firstError};
        for (int i = 0; i < looks.length; i++) {
            long answer = looks[i].getAsLong();
            is("look " + i, looks[i].getAsLong(), answer);
            is("the digest behind look " + i, x.digest(), before);
        }
    }

    public static void main(String[] args) {
        promise1();
        promise2();
        promise3();
        promise4();
        promise5();
        promise6();
        promises7And8();
        promise9();
        promise10();
        promise11();
        promise12();
        promise13();
        promise14();
        promise15();
        promise16();
        promise17();
        promise18();
        promise19();
        promise20();
        promise21();
        promise22();
        looksChangeNothing();
        System.out.println(sentences + " sentences, " + checks + " checks, " + wrong + " wrong");
        if (wrong != 0) {
            System.exit(1);
        }
    }
}
