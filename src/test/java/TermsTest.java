import java.util.function.IntSupplier;
import java.util.function.LongSupplier;

/**
 * The sentences under "Terms" in DOC.md that name a boundary case, each with a test of its own: the last value that is
 * allowed and the first that is not, the empty and the full, and what a refused call leaves. No object gets more than
 * the 512 calls for which the document speaks.
 */
public final class TermsTest {
    private static final Class<?> ARGUMENT = IllegalArgumentException.class;
    private static final Class<?> STATE = IllegalStateException.class;
    private static final Class<?> INDEX = IndexOutOfBoundsException.class;
    private static final int LOW = Integer.MIN_VALUE;
    private static final int HIGH = Integer.MAX_VALUE;
    private static final int[] NO_WALLETS = {-1, 4, 5, LOW, HIGH};
    private static final int[] NO_DAYS = {-1, 28, 29, 32, LOW, HIGH};
    private static final int[] NO_WEEKS = {-1, 4, 5, LOW, HIGH};
    private static final int[] NO_MINUTES = {-1, 1440, 1441, 2048, LOW, HIGH};
    private static final int[] NO_STATIONS = {-1, 10, 11, 16, LOW, HIGH};
    private static final int[] FIRST_VALUES = {180, 60, 420, 120, 700, 2800};
    private static final int[] LEAST_VALUES = {0, 0, 0, 1, 0, 0};
    private static final int[] MOST_VALUES = {999, 999, 999, 1439, 9999, 9999};

    private static String sentence = "";
    private static int sentences = 0;
    private static int checks = 0;
    private static int wrong = 0;

    private static void sentence(String words) {
        sentence = words;
        sentences++;
    }

    private static void is(String what, long got, long want) {
        checks++;
        if (got != want) {
            wrong++;
            System.out.println("\"" + sentence + "\": " + what + " answered " + got + ", due is " + want);
        }
    }

    private static String thrown(LongSupplier call) {
        try {
            call.getAsLong();
            return "nothing";
        } catch (RuntimeException e) {
            return e.getClass().getName();
        }
    }

    /** The call throws just this, and the digest is the same behind it. */
    private static void fails(String what, CapWallets x, Class<?> due, LongSupplier call) {
        checks++;
        long before = x.digest();
        String got = thrown(call);
        if (!got.equals(due.getName())) {
            wrong++;
            System.out.println("\"" + sentence + "\": " + what + " threw " + got + ", due is " + due.getName());
        }
        is(what + " leaves the digest", x.digest(), before);
    }

    private static void type(CapWallets x, String text) {
        x.clearBuffer();
        for (int i = 0; i < text.length(); i++) {
            x.append(text.charAt(i));
        }
    }

    /** Taps in of one wallet on one day, at each even minute from 0 on. */
    private static CapWallets withTaps(int taps) {
        CapWallets x = new CapWallets();
        for (int i = 0; i < taps; i++) {
            x.tap(0, 0, 2 * i, 0, true);
        }
        return x;
    }

    private static CapWallets withTap(int day, int minute, boolean in) {
        CapWallets x = new CapWallets();
        x.tap(2, day, minute, 4, in);
        return x;
    }

    private static void tapIs(String what, CapWallets x, int place, int... want) {
        for (int i = 0; i < want.length; i++) {
            is(what + ": tapOf(" + place + ", " + i + ")", x.tapOf(place, i), want[i]);
        }
    }

    // ---- what it is

    private static void callsOfAnObject() {
        sentence("An object is used for at most 512 calls after it has been made");
        CapWallets x = withTaps(60);
        for (int i = 1; i <= 225; i++) {
            x.set(2, i);
            x.settle(0);
        }
        is("the 511th call", x.count(9), 6);
        is("the 512th call", x.week(0, 0, 6), 225);
        CapWallets y = new CapWallets();
        for (int i = 0; i < 255; i++) {
            y.tap(0, 0, 0, 0, true);
            y.undo();
        }
        is("the 511th call", y.tap(0, 0, 0, 0, true), 0);
        is("the 512th call", y.count(9), 1);
    }

    // ---- taps

    private static void wallets() {
        sentence("There are 4 wallets, 0 to 3");
        for (int w = 0; w <= 3; w++) {
            CapWallets x = new CapWallets();
            is("tap", x.tap(w, 0, 0, 0, true), 0);
            is("its wallet", x.tapOf(0, 0), w);
            for (int other = 0; other <= 3; other++) {
                is("day", x.day(other, 0, 0), other == w ? 1 : 0);
                is("week", x.week(other, 0, 0), other == w ? 1 : 0);
                is("ledger", x.ledger(other, 0, 0), -1);
                is("ifTapped", x.ifTapped(other, 0, 1, 0, false), other == w ? 100000 + 180 - 420 : 100420);
            }
        }
        CapWallets x = new CapWallets();
        for (int w : NO_WALLETS) {
            fails("tap " + w, x, ARGUMENT, () -> x.tap(w, 0, 0, 0, true));
            fails("day " + w, x, ARGUMENT, () -> x.day(w, 0, 0));
            fails("week " + w, x, ARGUMENT, () -> x.week(w, 0, 0));
            fails("ledger " + w, x, ARGUMENT, () -> x.ledger(w, 0, 0));
            fails("ifTapped " + w, x, ARGUMENT, () -> x.ifTapped(w, 0, 0, 0, true));
        }
    }

    private static void days() {
        sentence("28 days, 0 to 27");
        for (int d = 0; d <= 27; d++) {
            CapWallets x = new CapWallets();
            is("tap", x.tap(1, d, 0, 0, true), 0);
            is("its day", x.tapOf(0, 1), d);
            is("ifTapped", x.ifTapped(1, d, 0, 0, false), 100000 + 180 - 420);
            for (int other = 0; other <= 27; other++) {
                is("day", x.day(1, other, 0), other == d ? 1 : 0);
            }
        }
        CapWallets x = new CapWallets();
        for (int d : NO_DAYS) {
            fails("tap " + d, x, ARGUMENT, () -> x.tap(0, d, 0, 0, true));
            fails("day " + d, x, ARGUMENT, () -> x.day(0, d, 0));
            fails("ifTapped " + d, x, ARGUMENT, () -> x.ifTapped(0, d, 0, 0, true));
        }
    }

    private static void weeks() {
        sentence("(a week is 7 of them: the weeks 0 to 3)");
        int[][] ends = {{0, 6}, {7, 13}, {14, 20}, {21, 27}};
        for (int w = 0; w <= 3; w++) {
            for (int day : ends[w]) {
                CapWallets x = new CapWallets();
                x.tap(3, day, 0, 0, true);
                for (int other = 0; other <= 3; other++) {
                    int fare = other == w ? 420 : 0;
                    is("week " + other + ", day " + day, x.week(3, other, 3), fare);
                    is("settle " + other + ", day " + day, x.settle(other), 100000 + fare);
                }
                is("claim on day " + day, x.claim(0, 0, 0), 0);
                is("claims of week " + w, x.week(3, w, 5), 1);
            }
        }
        CapWallets x = new CapWallets();
        for (int w : NO_WEEKS) {
            fails("week " + w, x, ARGUMENT, () -> x.week(0, w, 0));
            fails("settle " + w, x, ARGUMENT, () -> x.settle(w));
        }
    }

    private static void stations() {
        sentence("10 stations, 0 to 9, along a line");
        for (int s = 0; s <= 9; s++) {
            CapWallets x = new CapWallets();
            is("tap", x.tap(0, 0, 0, s, true), 0);
            is("its station", x.tapOf(0, 3), s);
            is("leaky", x.leaky(), s);
            is("ifTapped", x.ifTapped(0, 0, 1, s, false), 100000 + 180 - 420);
            is("whyNot", x.whyNot(0, 1, s), 0);
            is("claim", x.claim(0, 1, s), 0);
            is("the station of the claim", x.tapOf(1, 3), s);
        }
        CapWallets x = withTap(0, 0, true);
        for (int s : NO_STATIONS) {
            fails("tap " + s, x, ARGUMENT, () -> x.tap(0, 0, 0, s, true));
            fails("ifTapped " + s, x, ARGUMENT, () -> x.ifTapped(0, 0, 0, s, true));
            fails("whyNot " + s, x, ARGUMENT, () -> x.whyNot(0, 0, s));
            fails("claim " + s, x, ARGUMENT, () -> x.claim(0, 0, s));
        }
    }

    private static void minutes() {
        sentence("A tap has a wallet, a time (a day and a minute, 0 to 1439)");
        for (int m : new int[] {0, 1, 1023, 1024, 1438, 1439}) {
            CapWallets x = new CapWallets();
            is("tap", x.tap(0, 27, m, 0, true), 0);
            is("its minute", x.tapOf(0, 2), m);
            is("ifTapped", x.ifTapped(0, 27, m, 0, false), 100000 + 180 - 420);
            is("whyNot", x.whyNot(0, m, 0), 0);
            is("claim", x.claim(0, m, 0), 0);
            is("the minute of the claim", x.tapOf(1, 2), m);
        }
        CapWallets x = withTap(0, 0, true);
        for (int m : NO_MINUTES) {
            fails("tap " + m, x, ARGUMENT, () -> x.tap(0, 0, m, 0, true));
            fails("ifTapped " + m, x, ARGUMENT, () -> x.ifTapped(0, 0, m, 0, true));
            fails("whyNot " + m, x, ARGUMENT, () -> x.whyNot(0, m, 0));
            fails("claim " + m, x, ARGUMENT, () -> x.claim(0, m, 0));
        }
    }

    private static void inOrOut() {
        sentence("and is in or out.");
        is("in", withTap(0, 0, true).tapOf(0, 4), 1);
        is("out", withTap(0, 0, false).tapOf(0, 4), 0);
    }

    private static void mostTaps() {
        sentence("There are at most 60 taps");
        CapWallets x = withTaps(59);
        is("the 60th", x.tap(3, 27, 1439, 9, false), 59);
        is("taps", x.count(0), 60);
        tapIs("the 60th", x, 59, 3, 27, 1439, 9, 0, -1, 420, 0);
        fails("the 61st at the end", x, STATE, () -> x.tap(3, 27, 1439, 9, false));
        fails("the 61st ahead", x, STATE, () -> x.tap(0, 0, 0, 0, true));
        is("a claim more", x.claim(0, 0, 0), 4);
        type(x, "0d0:0+0");
        is("a text more", x.load(), 0);
        is("taps", x.count(0), 60);
    }

    private static void placesByTime() {
        sentence("told by their places in the order of their times (day, then minute)");
        CapWallets x = new CapWallets();
        is("first", x.tap(0, 1, 0, 0, true), 0);
        is("a day ahead, at the last minute", x.tap(0, 0, 1439, 1, true), 0);
        is("a minute behind", x.tap(0, 1, 1, 2, true), 2);
        is("the last time", x.tap(0, 27, 1439, 3, true), 3);
        is("the first time", x.tap(0, 0, 0, 4, true), 0);
        is("a minute ahead of the last", x.tap(0, 27, 1438, 5, true), 4);
        is("a minute behind the first", x.tap(0, 0, 1, 6, true), 1);
        int[] stations = {4, 6, 1, 0, 2, 5, 3};
        for (int place = 0; place < stations.length; place++) {
            is("station at place " + place, x.tapOf(place, 3), stations[place]);
        }
    }

    private static void placesAtOneTime() {
        sentence("of several with the same time in the order in which they came");
        CapWallets x = new CapWallets();
        for (int i = 0; i < 60; i++) {
            is("place", x.tap(3 - i % 4, 5, 700, 9 - i % 10, i % 3 == 0), i);
        }
        for (int i = 0; i < 60; i++) {
            is("station", x.tapOf(i, 3), 9 - i % 10);
        }
        x.remove(0);
        is("what comes anew is the latest", x.tap(3, 5, 700, 9, true), 59);
        is("the first now", x.tapOf(0, 3), 8);
    }

    private static void placesOfAll() {
        sentence("all wallets together, from 0 on.");
        CapWallets x = new CapWallets();
        for (int wallet = 3; wallet >= 0; wallet--) {
            is("ahead of the wallets that came", x.tap(wallet, 0, 100 + wallet, 0, true), 0);
        }
        for (int place = 0; place <= 3; place++) {
            is("wallet", x.tapOf(place, 0), place);
        }
    }

    // ---- rides

    private static void nextTap() {
        sentence("a tap in, whose next tap (of this wallet) is out");
        // Signs: i, o of wallet 0; I, O of wallet 1. Behind them the place with which each makes a ride; - for none.
        String[][] rows = {{"i", "-"}, {"o", "-"}, {"io", "10"}, {"oi", "--"}, {"ii", "--"}, {"oo", "--"}, {"iio", "-21"},
            {"ioo", "10-"}, {"oio", "-21"}, {"iOo", "2-0"}, {"iIo", "2-0"}, {"iIoO", "2301"}, {"iIOo", "3210"},
            {"iO", "--"}, {"iIOoio", "321054"}, {"iioo", "-21-"}, {"ioio", "1032"}, {"IiOo", "2301"}};
        for (String[] row : rows) {
            CapWallets x = new CapWallets();
            for (int i = 0; i < row[0].length(); i++) {
                char sign = row[0].charAt(i);
                x.tap(Character.isUpperCase(sign) ? 1 : 0, 3, 500 + i, 0, Character.toLowerCase(sign) == 'i');
            }
            for (int i = 0; i < row[0].length(); i++) {
                is("tap " + i + " of " + row[0], x.tapOf(i, 5), row[1].charAt(i) == '-' ? -1 : row[1].charAt(i) - '0');
            }
        }
    }

    private static void sameDay() {
        sentence("on the same day");
        CapWallets x = new CapWallets();
        x.set(3, 1439);
        x.tap(0, 0, 1439, 0, true);
        x.tap(0, 1, 0, 0, false);
        is("a minute later, over midnight", x.tapOf(0, 5), -1);
        is("both are alone", x.count(2), 2);
        x.tap(1, 6, 500, 0, true);
        x.tap(1, 7, 500, 0, false);
        is("the same minute, a day later", x.tapOf(2, 5), -1);
        x.tap(2, 0, 0, 0, true);
        x.tap(2, 0, 1439, 0, false);
        is("from the first to the last minute of a day", x.tapOf(0, 5), 2);
    }

    private static boolean rides(int minutes, int from, int to) {
        CapWallets x = new CapWallets();
        x.set(3, minutes);
        x.tap(0, 0, from, 0, true);
        x.tap(0, 0, to, 0, false);
        is("both say the same", x.tapOf(1, 5), x.tapOf(0, 5) == 1 ? 0 : -1);
        return x.tapOf(0, 5) == 1;
    }

    private static void rideMinutes() {
        sentence("and at most setting 3 minutes later, makes a ride with it");
        int[][] rows = {{1, 0, 0, 1}, {1, 0, 1, 1}, {1, 0, 2, 0}, {120, 500, 500, 1}, {120, 500, 619, 1}, {120, 500, 620, 1},
            {120, 500, 621, 0}, {1438, 0, 1438, 1}, {1438, 0, 1439, 0}, {1439, 0, 1439, 1}, {1439, 1439, 1439, 1}};
        for (int[] row : rows) {
            is(row[1] + " to " + row[2] + " of " + row[0] + " minutes", rides(row[0], row[1], row[2]) ? 1 : 0, row[3]);
        }
        CapWallets x = new CapWallets();
        x.tap(0, 0, 100, 0, true);
        x.tap(0, 0, 220, 0, false);
        x.set(3, 119);
        is("a setting less parts them", x.count(2), 2);
        x.set(3, 120);
        is("and more joins them", x.count(2), 0);
    }

    private static void ridesAlone() {
        sentence("Each other tap makes a ride alone: a tap in lacks its out, a tap out lacks its in.");
        CapWallets x = new CapWallets();
        x.tap(0, 0, 0, 0, false);
        is("an out is a ride", x.count(1), 1);
        is("an out is alone", x.count(2), 1);
        x.tap(0, 0, 1, 0, true);
        is("an in is a ride", x.count(1), 2);
        is("an in is alone", x.count(2), 2);
        x.tap(0, 0, 2, 0, false);
        is("two make one", x.count(1), 2);
        is("two are not alone", x.count(2), 1);
        is("60 alone", withTaps(60).count(2), 60);
    }

    private static void dayOfRide() {
        sentence("A ride is of the day of its first tap (of its tap, if it is alone).");
        CapWallets x = new CapWallets();
        x.tap(0, 6, 1439, 0, true);
        x.tap(0, 7, 0, 0, false);
        for (int day = 5; day <= 8; day++) {
            is("day " + day, x.day(0, day, 0), day == 6 || day == 7 ? 1 : 0);
        }
        x.tap(0, 6, 1439, 0, false);
        is("a ride of two taps is one of its day", x.day(0, 6, 0), 1);
        is("and not alone", x.day(0, 6, 1), 0);
        is("the fare is of its day once", x.day(0, 6, 2), 180);
    }

    private static void fares() {
        sentence("the zone of a station is its number divided by 2, rounded down");
        int[] zones = {0, 0, 1, 1, 2, 2, 3, 3, 4, 4};
        for (int from = 0; from <= 9; from++) {
            for (int to = 0; to <= 9; to++) {
                CapWallets x = new CapWallets();
                x.tap(0, 0, 0, from, true);
                x.tap(0, 0, 0, to, false);
                int crossed = zones[from] > zones[to] ? zones[from] - zones[to] : zones[to] - zones[from];
                is("from " + from + " to " + to, x.tapOf(0, 6), 180 + 60 * crossed);
                is("the fare stands at the out, too", x.tapOf(1, 6), 180 + 60 * crossed);
            }
        }
        sentence("(To leave at the same station costs setting 0, too.)");
        for (int value : new int[] {0, 1, 999}) {
            CapWallets x = new CapWallets();
            x.set(0, value);
            x.tap(0, 0, 0, 7, true);
            x.tap(0, 0, 0, 7, false);
            is("setting 0 is " + value, x.day(0, 0, 2), value);
        }
        sentence("The fare of a ride alone is setting 2.");
        for (int value : new int[] {0, 1, 999}) {
            CapWallets x = new CapWallets();
            x.set(2, value);
            x.tap(0, 0, 0, 7, true);
            is("an in, setting 2 is " + value, x.tapOf(0, 6), value);
            x.tap(1, 0, 0, 7, false);
            is("an out, setting 2 is " + value, x.tapOf(1, 6), value);
        }
        sentence("The fare of a ride with two taps is setting 0, and setting 1 for each zone that it crosses");
        int[][] rows = {{0, 0, 0}, {0, 1, 4}, {1, 0, 1}, {999, 999, 4995}, {0, 999, 3996}, {999, 0, 999}};
        for (int[] row : rows) {
            CapWallets x = new CapWallets();
            x.set(0, row[0]);
            x.set(1, row[1]);
            x.tap(0, 0, 0, 0, true);
            x.tap(0, 0, 0, 9, false);
            is("over four zones", x.tapOf(0, 6), row[2]);
        }
    }

    // ---- caps and settling

    private static void dayCap() {
        sentence("A day of a wallet costs the fares of its rides, at most setting 4");
        CapWallets x = new CapWallets();
        is("without rides", x.day(0, 0, 3), 0);
        x.tap(0, 0, 0, 0, true);
        x.tap(0, 0, 1, 0, true);
        int[][] rows = {{841, 840}, {840, 840}, {839, 839}, {1, 1}, {0, 0}, {9999, 840}};
        for (int[] row : rows) {
            x.set(4, row[0]);
            is("at most " + row[0], x.day(0, 0, 3), row[1]);
            is("the fares stay", x.day(0, 0, 2), 840);
            is("the week", x.week(0, 0, 2), row[1]);
        }
        CapWallets y = new CapWallets();
        y.tap(0, 0, 0, 0, true);
        y.tap(0, 0, 1, 0, true);
        y.tap(1, 0, 2, 0, true);
        is("each wallet has its own cap", y.count(3), 700 + 420);
        y.tap(0, 1, 0, 0, true);
        is("each day has its own cap", y.week(0, 0, 3), 700 + 420);
    }

    private static void weekCap() {
        sentence("a week costs its days, at most setting 5.");
        CapWallets x = new CapWallets();
        is("without rides", x.week(0, 0, 3), 0);
        x.tap(0, 0, 0, 0, true);
        x.tap(0, 0, 1, 0, true);
        x.tap(0, 6, 0, 0, true);
        int[][] rows = {{1121, 1120}, {1120, 1120}, {1119, 1119}, {1, 1}, {0, 0}, {9999, 1120}};
        for (int[] row : rows) {
            x.set(5, row[0]);
            is("at most " + row[0], x.week(0, 0, 3), row[1]);
            is("its days stay", x.week(0, 0, 2), 1120);
            is("its fares stay", x.week(0, 0, 1), 1260);
            is("all weeks", x.count(3), row[1]);
        }
        CapWallets y = new CapWallets();
        y.set(5, 420);
        y.tap(0, 6, 0, 0, true);
        y.tap(0, 7, 0, 0, true);
        y.tap(1, 6, 0, 0, true);
        is("each week of each wallet has its own cap", y.count(3), 3 * 420);
    }

    private static void settling() {
        sentence("what the week costs now, less what was charged for it before, is charged");
        CapWallets x = new CapWallets();
        x.tap(0, 0, 0, 0, true);
        is("what it costs", x.settle(0), 100420);
        x.tap(0, 1, 0, 0, true);
        is("only what is more", x.settle(0), 100420);
        is("charged together", x.week(0, 0, 4), 840);
        is("nothing more", x.settle(0), 100000);
        sentence("(a refund, if it is below 0)");
        is("no refund by 0 or more", x.count(5), 0);
        x.set(2, 419);
        is("2 cents less", x.settle(0), 99998);
        is("a refund", x.count(5), 1);
        is("of 2 cents", x.count(6), 2);
        is("charged together", x.week(0, 0, 4), 838);
        x.set(2, 420);
        is("2 cents more", x.settle(0), 100002);
        is("is no refund", x.count(5), 1);
        is("and takes none back", x.count(6), 2);
        sentence("and put into the ledger (also if it is 0)");
        is("the latest", x.ledger(0, 0, 1), 100002);
        is("a refund", x.ledger(0, 1, 1), 99998);
        is("of 0", x.ledger(0, 2, 1), 100000);
        is("of 0, without a tap", x.ledger(3, 0, 1), 100000);
        is("its week", x.ledger(3, 0, 0), 0);
    }

    private static void settledAnew() {
        sentence("Until it is settled nothing is charged.");
        CapWallets x = new CapWallets();
        x.tap(0, 7, 0, 0, true);
        x.settle(0);
        is("another week was settled", x.week(0, 1, 4), 0);
        is("nothing", x.count(4), 0);
        sentence("Taps can come, or go, behind that; then what is charged and what it costs differ, until the week is settled"
            + " anew.");
        x.settle(1);
        is("as much as it costs", x.count(8), 0);
        x.tap(0, 13, 0, 0, true);
        is("a tap came: charged", x.week(0, 1, 4), 420);
        is("a tap came: costs", x.week(0, 1, 3), 840);
        is("they differ", x.count(8), 1);
        x.settle(1);
        is("settled anew", x.count(8), 0);
        x.remove(0);
        x.remove(0);
        is("taps went: charged", x.week(0, 1, 4), 840);
        is("taps went: costs", x.week(0, 1, 3), 0);
        is("they differ", x.count(8), 1);
        is("all is refunded", x.settle(1), 100000 - 840);
        is("settled anew", x.count(8), 0);
        is("charged", x.week(0, 1, 4), 0);
    }

    // ---- claims

    /** whyNot changes nothing and says what claim then answers. */
    private static void claims(String what, CapWallets x, int place, int minute, int want) {
        long before = x.digest();
        is(what + ": whyNot", x.whyNot(place, minute, 5), want);
        is(what + ": the digest behind whyNot", x.digest(), before);
        int taps = x.count(0);
        is(what + ": claim", x.claim(place, minute, 5), want);
        is(what + ": taps", x.count(0), want == 0 ? taps + 1 : taps);
    }

    private static void missingTap() {
        sentence("its missing tap is put in, at a station and a minute of the same day");
        for (int day = 0; day <= 27; day += 27) {
            CapWallets x = withTap(day, 60, true);
            claims("an out", x, 0, 61, 0);
            tapIs("the in", x, 0, 2, day, 60, 4, 1, 1, 180, 0);
            tapIs("the out", x, 1, 2, day, 61, 5, 0, 0, 180, 1);
            CapWallets y = withTap(day, 60, false);
            claims("an in", y, 0, 59, 0);
            tapIs("the in", y, 0, 2, day, 59, 5, 1, 1, 180, 1);
            tapIs("the out", y, 1, 2, day, 60, 4, 0, 0, 180, 0);
        }
        sentence("an out at the same minute or behind its in");
        int[][] outs = {{600, 599, 2}, {600, 600, 0}, {600, 601, 0}, {600, 0, 2}, {0, 0, 0}, {0, 120, 0}, {0, 121, 5},
            {1439, 1439, 0}, {1439, 1438, 2}, {600, 720, 0}, {600, 721, 5}, {600, 1439, 5}, {1, 0, 2}};
        for (int[] row : outs) {
            claims("an in at " + row[0] + ", an out at " + row[1], withTap(3, row[0], true), 0, row[1], row[2]);
        }
        sentence("an in at the same minute or ahead of its out");
        int[][] ins = {{600, 601, 2}, {600, 600, 5}, {600, 599, 0}, {600, 1439, 2}, {0, 0, 5}, {0, 1, 2}, {120, 0, 0},
            {121, 0, 5}, {1439, 1439, 5}, {1439, 1438, 0}, {600, 480, 0}, {600, 479, 5}, {600, 0, 5}, {1438, 1439, 2}};
        for (int[] row : ins) {
            claims("an out at " + row[0] + ", an in at " + row[1], withTap(3, row[0], false), 0, row[1], row[2]);
        }
    }

    private static void latestTap() {
        sentence("it counts as the latest tap that came.");
        CapWallets x = withTap(0, 600, true);
        x.tap(1, 0, 600, 0, true);
        claims("behind the other wallet's", x, 0, 600, 0);
        is("its place", x.tapOf(0, 5), 2);
        is("what comes then is later", x.tap(2, 0, 600, 1, true), 3);
        CapWallets y = withTap(0, 490, false);
        y.tap(2, 0, 600, 4, false);
        claims("behind an out of its minute", y, 1, 490, 0);
        is("the first out stays alone", y.tapOf(0, 5), -1);
        is("the in rides with the second", y.tapOf(1, 5), 2);
        CapWallets z = withTap(0, 600, true);
        z.tap(2, 0, 610, 4, true);
        claims("behind an in of its minute", z, 0, 610, 5);
        claims("ahead of that minute", z, 0, 609, 0);
    }

    /** Wallet 2 on day 3: a ride from 600 to 610, an in alone at 1000, and two claims made, if so told, on day 4. */
    private static CapWallets forReasons(boolean claimed, boolean full) {
        CapWallets x = new CapWallets();
        x.tap(2, 3, 600, 0, true);
        x.tap(2, 3, 610, 0, false);
        x.tap(2, 3, 1000, 0, true);
        x.tap(2, 4, 0, 0, true);
        x.tap(2, 4, 500, 0, true);
        if (claimed) {
            x.claim(4, 500, 0);
            x.claim(3, 0, 0);
        }
        while (full && x.count(0) < 60) {
            x.tap(3, 27, 1439, 0, true);
        }
        return x;
    }

    private static void firstReason() {
        sentence("A claim is refused, for the first of these reasons that is so");
        for (int i = 0; i < 4; i++) {
            boolean claimed = i % 2 == 1;
            boolean full = i >= 2;
            claims("a tap of a ride, too early", forReasons(claimed, full), 0, 599, 1);
            claims("a tap of a ride, too late", forReasons(claimed, full), 1, 1439, 1);
            claims("no such tap", forReasons(claimed, full), 60, 600, 1);
            claims("a minute too early", forReasons(claimed, full), 2, 999, 2);
            claims("all well", forReasons(claimed, full), 2, 1000, claimed ? 3 : full ? 4 : 0);
            claims("no ride", forReasons(claimed, full), 2, 1121, claimed ? 3 : full ? 4 : 5);
        }
        CapWallets x = forReasons(true, true);
        is("refused so far", x.count(7), 0);
        for (int i = 1; i <= 5; i++) {
            x.claim(0, 0, 0);
            is("refused so far", x.count(7), i);
            x.whyNot(0, 0, 0);
        }
    }

    private static void noSuchTap() {
        sentence("1: there is no such tap, or it makes no ride alone");
        int[] places = {-1, 1, 2, 59, 60, 61, LOW, HIGH};
        CapWallets x = withTap(0, 0, true);
        for (int place : places) {
            claims("place " + place, x, place, 0, 1);
        }
        claims("the last place", x, 0, 0, 0);
        claims("the in of a ride", x, 0, 0, 1);
        claims("the out of a ride", x, 1, 0, 1);
        claims("place 2 of 2", x, 2, 0, 1);
        CapWallets empty = new CapWallets();
        claims("no taps", empty, 0, 0, 1);
        claims("no taps", empty, -1, 1439, 1);
        CapWallets full = withTaps(60);
        claims("place 60 of 60", full, 60, 1439, 1);
        claims("place 59 of 60", full, 59, 1439, 4);
    }

    private static void twoClaims() {
        sentence("3: two claims were made for this wallet in this week already");
        CapWallets x = new CapWallets();
        for (int i = 0; i < 4; i++) {
            x.tap(0, 2 * i, 300, 0, true);
        }
        x.tap(1, 6, 300, 0, true);
        x.tap(0, 7, 300, 0, true);
        claims("a refused one is not made", x, 0, 1000, 5);
        claims("a refused one is not made", x, 0, 299, 2);
        is("none was made", x.week(0, 0, 5), 0);
        claims("the first", x, 0, 300, 0);
        is("one was made", x.week(0, 0, 5), 1);
        claims("the second", x, 2, 300, 0);
        is("two were made", x.week(0, 0, 5), 2);
        claims("the third", x, 4, 300, 3);
        claims("the third, on the last day of the week", x, 5, 300, 3);
        is("two were made", x.week(0, 0, 5), 2);
        claims("of the other wallet", x, 6, 300, 0);
        claims("of the next week", x, 8, 300, 0);
        is("claims of the next week", x.week(0, 1, 5), 1);
        CapWallets y = new CapWallets();
        for (int i = 0; i < 3; i++) {
            y.tap(0, 13 + i / 2, 300 + i, 0, true);
        }
        claims("day 13", y, 0, 300, 0);
        claims("day 13", y, 2, 301, 0);
        claims("day 14", y, 4, 302, 0);
        y.undo();
        y.undo();
        claims("an undone one is not made", y, 2, 301, 0);
    }

    private static void removedClaims() {
        sentence("(by the day of the tap; also if their taps were removed since)");
        CapWallets x = withTap(0, 100, true);
        claims("the first", x, 0, 101, 0);
        x.remove(1);
        claims("the second", x, 0, 101, 0);
        x.remove(1);
        is("no tap that was claimed", x.count(0), 1);
        is("claims stay", x.week(2, 0, 5), 2);
        claims("the third", x, 0, 101, 3);
        x.remove(0);
        is("no tap at all", x.count(0), 0);
        is("claims stay", x.week(2, 0, 5), 2);
        x.tap(2, 6, 0, 0, false);
        claims("a day of the same week, an in too late", x, 0, 1, 2);
        claims("a day of the same week", x, 0, 0, 3);
    }

    private static void claimsOfTheFull() {
        sentence("4: there are 60 taps");
        CapWallets x = withTaps(59);
        claims("59 taps", x, 58, 116, 0);
        is("60 taps now", x.count(0), 60);
        claims("60 taps", x, 57, 114, 4);
        x.remove(0);
        claims("59 taps again", x, 56, 114, 0);
    }

    private static void noRideTogether() {
        sentence("5: both would make no ride together behind it");
        CapWallets x = withTap(0, 100, true);
        x.set(3, 1);
        claims("2 minutes of 1", x, 0, 102, 5);
        claims("1 minute of 1", x, 0, 101, 0);
        CapWallets y = withTap(0, 100, true);
        y.tap(2, 0, 110, 0, true);
        y.tap(2, 0, 120, 0, false);
        claims("a ride between", y, 0, 125, 5);
        claims("inside of a ride", y, 0, 115, 5);
        claims("ahead of the ride", y, 0, 105, 0);
        CapWallets z = withTap(0, 100, false);
        z.tap(2, 0, 90, 0, true);
        z.tap(2, 0, 95, 0, false);
        claims("an in ahead of a ride", z, 2, 85, 5);
        claims("an in inside of a ride", z, 2, 92, 5);
        claims("an in behind the ride", z, 2, 95, 0);
        CapWallets other = withTap(0, 100, true);
        other.tap(1, 0, 105, 0, true);
        other.tap(1, 0, 106, 0, false);
        claims("another wallet between", other, 0, 110, 0);
        is("the ride", other.tapOf(0, 5), 3);
    }

    // ---- settings

    private static void settings() {
        sentence("0: the least fare, 0 to 999, at first 180; 1: for a zone, 0 to 999, at first 60; 2: a ride alone, 0 to 999,"
            + " at first 420; 3: minutes of a ride, 1 to 1439, at first 120; 4: the cap of a day, 0 to 9999, at first 700;"
            + " 5: the cap of a week, 0 to 9999, at first 2800.");
        for (int i = 0; i < 6; i++) {
            int s = i;
            CapWallets x = new CapWallets();
            int[] bad = {LEAST_VALUES[s] - 1, MOST_VALUES[s] + 1, LOW, HIGH};
            for (int value : bad) {
                fails("setting " + s + " to " + value, x, ARGUMENT, () -> x.set(s, value));
            }
            is("at first", x.set(s, LEAST_VALUES[s]), FIRST_VALUES[s]);
            is("the least", x.set(s, LEAST_VALUES[s] + 1), LEAST_VALUES[s]);
            is("one more", x.set(s, MOST_VALUES[s] - 1), LEAST_VALUES[s] + 1);
            is("one less", x.set(s, MOST_VALUES[s]), MOST_VALUES[s] - 1);
            for (int value : bad) {
                fails("setting " + s + " to " + value, x, ARGUMENT, () -> x.set(s, value));
            }
            is("the most", x.set(s, FIRST_VALUES[s]), MOST_VALUES[s]);
            for (int other = 0; other < 6; other++) {
                is("no other was changed", x.set(other, FIRST_VALUES[other]), FIRST_VALUES[other]);
            }
        }
    }

    // ---- input text

    private static void fullBuffer() {
        sentence("The buffer has at most 60 characters.");
        CapWallets x = new CapWallets();
        for (int i = 1; i <= 60; i++) {
            is("length", x.append(48), i);
        }
        fails("the 61st", x, STATE, () -> x.append(48));
        is("cleared", x.clearBuffer(), 60);
        is("anew", x.append(48), 1);
    }

    private static int loads(String text) {
        CapWallets x = new CapWallets();
        type(x, text);
        is("errors of " + text, x.firstError(), text.length());
        return thrown(x::load).equals(ARGUMENT.getName()) ? -1 : x.count(0);
    }

    private static void oneOrMore() {
        sentence("Taps as a text are one or more taps with \";\" between them");
        is("none", loads(""), -1);
        is("one", loads("0d0:0+0"), 1);
        is("a ; behind", loads("0d0:0+0;"), -1);
        is("two", loads("0d0:0+0;1d1:1-1"), 2);
        is("seven", loads("0d0:0+0;1d1:1-1;2d2:2+2;3d3:3-3;0d4:4+4;1d5:5-5;2d6:6+6"), 7);
        is("60 characters", loads("0d0:100+0;1d1:200-1;2d2:300+2;3d3:400-3;0d4:500+4;1d5:1000-5"), 6);
        is("60 characters, a ; behind", loads("3d27:1439-9;3d27:1439-9;3d27:1439-9;3d27:1439-9;3d27:1439-9;"), -1);
        CapWallets x = new CapWallets();
        String[] bad = {";", "0d0:0+0;;", "0d0:0+0,"};
        for (String text : bad) {
            type(x, text);
            is(text, x.firstError(), text.length() - 1);
            fails(text, x, ARGUMENT, x::load);
        }
    }

    private static void numbersOfText() {
        sentence("the digit of a wallet, 0 to 3, \"d\", a day, 0 to 27, \":\", a minute, 0 to 1439, \"+\" (in) or \"-\" (out), and"
            + " the digit of a station.");
        for (int i = 0; i < 1440; i++) {
            CapWallets x = new CapWallets();
            type(x, i % 4 + "d" + i % 28 + ":" + i + (i % 3 == 0 ? "+" : "-") + i % 10);
            is("minute " + i, x.load(), 1);
            tapIs("minute " + i, x, 0, i % 4, i % 28, i, i % 10, i % 3 == 0 ? 1 : 0, -1, 420, 0);
        }
        CapWallets x = new CapWallets();
        for (int day : new int[] {28, 29, 30, 40, 99, 100, 270, 999}) {
            type(x, "0d" + day + ":0+0");
            is("day " + day, x.firstError(), day == 100 || day == 270 ? 4 : 3);
            fails("day " + day, x, ARGUMENT, x::load);
        }
        CapWallets y = new CapWallets();
        for (int minute : new int[] {1440, 1449, 1450, 1500, 2000, 9999, 10000, 14390}) {
            type(y, "0d0:" + minute + "+0");
            is("minute " + minute, y.firstError(), minute == 10000 || minute == 14390 ? 8 : 7);
            fails("minute " + minute, y, ARGUMENT, y::load);
        }
        CapWallets z = new CapWallets();
        for (String wallet : new String[] {"4", "5", "9", "/", ":", "d"}) {
            type(z, wallet + "d0:0+0");
            is("wallet " + wallet, z.firstError(), 0);
            fails("wallet " + wallet, z, ARGUMENT, z::load);
        }
    }

    private static void leadingZeros() {
        sentence("Numbers are without leading zeros.");
        is("day 0", loads("0d0:7+0"), 1);
        is("minute 0", loads("0d7:0+0"), 1);
        is("zeros behind", loads("0d20:1000+0"), 1);
        CapWallets x = new CapWallets();
        String[] bad = {"0d00:0+0", "0d01:0+0", "0d09:0+0", "0d027:0+0", "00d0:0+0"};
        for (String text : bad) {
            type(x, text);
            is(text, x.firstError(), text.startsWith("00") ? 1 : 3);
            fails(text, x, ARGUMENT, x::load);
        }
        CapWallets y = new CapWallets();
        String[] minutes = {"0d0:00+0", "0d0:01+0", "0d0:01439+0", "0d0:0000+0"};
        for (String text : minutes) {
            type(y, text);
            is(text, y.firstError(), 5);
            fails(text, y, ARGUMENT, y::load);
        }
        CapWallets z = new CapWallets();
        type(z, "0d0:0+00");
        is("a station of two digits", z.firstError(), 7);
        fails("a station of two digits", z, ARGUMENT, z::load);
    }

    private static void beginnings() {
        sentence("a character is a syntax error if no taps as a text, of any length, begin with the characters before it and"
            + " this character.");
        String digits = "0123456789";
        String[][] rows = {{"", "0123"}, {"0", "d"}, {"3", "d"}, {"0d", digits}, {"0d0", ":"}, {"0d1", digits + ":"},
            {"0d2", "01234567:"}, {"0d3", ":"}, {"0d9", ":"}, {"0d10", ":"}, {"0d19", ":"}, {"0d20", ":"}, {"0d27", ":"},
            {"0d0:", digits}, {"0d0:0", "+-"}, {"0d0:1", digits + "+-"}, {"0d0:2", digits + "+-"}, {"0d0:9", digits + "+-"},
            {"0d0:10", digits + "+-"}, {"0d0:14", digits + "+-"}, {"0d0:15", digits + "+-"}, {"0d0:99", digits + "+-"},
            {"0d0:100", digits + "+-"}, {"0d0:143", digits + "+-"}, {"0d0:144", "+-"}, {"0d0:145", "+-"}, {"0d0:200", "+-"},
            {"0d0:999", "+-"}, {"0d0:1000", "+-"}, {"0d0:1439", "+-"}, {"0d0:0+", digits}, {"0d0:0-", digits},
            {"0d0:0+0", ";"}, {"0d0:0-9", ";"}, {"0d0:0-9;", "0123"}, {"0d0:0-9;1", "d"}, {"0d0:0-9;1d", digits},
            {"0d0:0-9;1d2", "01234567:"}, {"0d0:0-9;1d3:144", "+-"}, {"0d0:0-9;1d3:0+4", ";"}, {"0d0:0-9;1d3:0+4;", "0123"}};
        for (String[] row : rows) {
            for (int code = 33; code <= 126; code++) {
                CapWallets x = new CapWallets();
                type(x, row[0] + (char) code);
                boolean fits = row[1].indexOf(code) >= 0;
                is(row[0] + (char) code, x.firstError(), fits ? row[0].length() + 1 : row[0].length());
            }
        }
        CapWallets x = new CapWallets();
        type(x, "3d27:1439-9;3d27:1439-9;3d27:1439-9;3d27:1439-9;3d27:1439-9;");
        is("it would go on behind 60 characters", x.firstError(), 60);
        fails("but it ends there", x, ARGUMENT, x::load);
        sentence("The buffer is read from left to right");
        type(x, "0d0:0+0;4d28:1440*x");
        is("the first of many", x.firstError(), 8);
        type(x, "x0d0:0+0");
        is("at the first character", x.firstError(), 0);
        type(x, "3d27:1439-9;3d27:1439-9;3d27:1439-9;3d27:1439-9;3d27:1439-9x");
        is("at the last of 60 characters", x.firstError(), 59);
    }

    // ---- undo

    /** Three saved states, and a state with claims, refusals, refunds and a setting that are not as at first. */
    private static CapWallets rich() {
        CapWallets x = new CapWallets();
        x.tap(0, 0, 100, 0, true);
        x.tap(0, 1, 100, 3, true);
        x.tap(1, 0, 100, 7, false);
        x.claim(0, 110, 9);
        x.claim(0, 110, 9);
        x.settle(0);
        x.remove(3);
        x.settle(0);
        x.set(1, 61);
        for (int i = 0; i < 3; i++) {
            x.tap(3, 27, 0, 0, true);
        }
        for (int i = 0; i < 3; i++) {
            x.undo();
        }
        return x;
    }

    private static void savedBy() {
        sentence("Each method that is marked \"undoable\" and does not throw an exception saves the state from before it");
        CapWallets x = rich();
        long before = x.digest();
        is("saved", x.count(9), 3);
        IntSupplier[] calls = {() -> x.tap(0, 0, 0, 0, true), () -> x.remove(0), () -> x.claim(1, 99, 0),
            () -> x.claim(1, 100, 0), () -> x.settle(0), () -> x.set(0, 1), x::load};
        for (int i = 0; i < calls.length; i++) {
            type(x, "0d0:0+0");
            calls[i].getAsInt();
            is("changed by call " + i, x.digest() == before ? 1 : 0, 0);
            is("saved by call " + i, x.count(9), 4);
            is("left", x.undo(), 3);
            x.clearBuffer();
            is("restored behind call " + i, x.digest(), before);
        }
        sentence("(also if it changes nothing)");
        CapWallets y = withTaps(60);
        for (int i = 0; i < 6; i++) {
            y.undo();
        }
        for (int i = 0; i < 6; i++) {
            y.tap(0, 27, i, 0, true);
        }
        y.undo();
        y.undo();
        y.tap(0, 27, 5, 0, true);
        y.tap(0, 27, 6, 0, true);
        type(y, "0d0:0+0");
        is("none comes", y.load(), 0);
        is("the value that it has", y.set(0, 180), 180);
        is("refused", y.claim(59, 0, 0), 2);
        is("taps", y.count(0), 60);
        is("undone", y.undo(), 5);
        is("undone", y.undo(), 4);
        is("undone", y.undo(), 3);
        is("taps", y.count(0), 60);
        is("undone", y.undo(), 2);
        is("taps", y.count(0), 59);
        CapWallets z = new CapWallets();
        z.set(5, 2800);
        z.settle(3);
        z.claim(0, 0, 0);
        is("three that change nothing", z.count(9), 3);
    }

    private static void countedSoFar() {
        sentence("all, also what is counted so far");
        CapWallets x = new CapWallets();
        x.tap(0, 0, 0, 0, true);
        x.settle(0);
        x.set(2, 300);
        long before = x.digest();
        is("a refund", x.settle(0), 99880);
        is("refunds", x.count(5), 1);
        is("refunded", x.count(6), 120);
        x.undo();
        is("refunds", x.count(5), 0);
        is("refunded", x.count(6), 0);
        is("charged", x.week(0, 0, 4), 420);
        is("how often", x.week(0, 0, 6), 1);
        is("all", x.digest(), before);
        is("refused", x.claim(9, 0, 0), 1);
        is("refused so far", x.count(7), 1);
        x.undo();
        is("refused so far", x.count(7), 0);
        is("all", x.digest(), before);
        CapWallets y = new CapWallets();
        for (int i = 0; i < 8; i++) {
            y.set(2, i);
            y.settle(i % 4);
        }
        y.tap(0, 7, 0, 0, true);
        is("the ninth", y.settle(1), 100007);
        is("the first is forgotten", y.ledger(0, 7, 0), 1);
        y.undo();
        is("the first is there again", y.ledger(0, 7, 0), 0);
        is("the eighth is the latest", y.ledger(0, 0, 0), 3);
    }

    private static void notSaved() {
        sentence("but the buffer and the saved states");
        CapWallets x = new CapWallets();
        type(x, "ab");
        x.tap(0, 0, 0, 0, true);
        x.append('c');
        is("undo", x.undo(), 0);
        is("the buffer goes on", x.append('d'), 4);
        x.tap(0, 0, 0, 0, true);
        x.clearBuffer();
        x.undo();
        is("a cleared buffer stays so", x.clearBuffer(), 0);
        type(x, "0d0:0+0");
        x.load();
        x.undo();
        is("taps", x.count(0), 0);
        is("a loaded buffer stays so", x.clearBuffer(), 0);
        x.append('e');
        x.clearBuffer();
        x.firstError();
        is("the buffer's calls save nothing", x.count(9), 0);
        x.tap(0, 0, 0, 0, true);
        x.tap(0, 0, 1, 0, true);
        x.undo();
        is("undo saves nothing", x.count(9), 1);
        is("undo again", x.undo(), 0);
        is("taps", x.count(0), 0);
    }

    private static void sixSaved() {
        sentence("At most 6 states are saved; the oldest one is dropped first.");
        for (int calls = 1; calls <= 14; calls++) {
            CapWallets x = new CapWallets();
            for (int i = 0; i < calls; i++) {
                x.tap(0, 0, i, 0, true);
                is("saved", x.count(9), i < 6 ? i + 1 : 6);
            }
            int left = calls < 6 ? calls : 6;
            for (int i = 1; i <= left; i++) {
                is("left", x.undo(), left - i);
                is("taps", x.count(0), calls - i);
            }
            fails("no more", x, STATE, x::undo);
            is("taps stay", x.count(0), calls - left);
        }
        CapWallets x = new CapWallets();
        for (int i = 0; i < 8; i++) {
            x.tap(0, 0, i, 0, true);
        }
        x.undo();
        x.undo();
        x.undo();
        for (int i = 0; i < 4; i++) {
            x.set(0, i);
        }
        is("saved", x.count(9), 6);
        for (int i = 5; i >= 0; i--) {
            is("left", x.undo(), i);
        }
        is("the three that were left, less the one that was dropped", x.count(0), 3);
    }

    // ---- exceptions

    /** What undo brings back, without the count of saved states. */
    private static long lookOver(CapWallets x) {
        long hash = 0;
        for (int i = 0; i <= 8; i++) {
            hash = 31 * hash + x.count(i);
        }
        for (int i = 0; i <= 6; i++) {
            hash = 31 * hash + x.week(0, 0, i);
        }
        return 31 * hash + x.leaky();
    }

    private static LongSupplier[] refused(CapWallets x) {
        return new LongSupplier[] {() -> x.tap(4, 0, 0, 0, true), () -> x.remove(60), () -> x.remove(-1),
            () -> x.claim(0, 1440, 0), () -> x.claim(0, 0, 10), () -> x.settle(4), () -> x.set(6, 0), () -> x.set(0, 1000),
            () -> x.append(32), x::load, () -> x.tapOf(60, 0), () -> x.tapOf(0, 8), () -> x.day(0, 28, 0),
            () -> x.week(0, 4, 0), () -> x.count(10), () -> x.ledger(0, 8, 0), () -> x.ifTapped(0, 28, 0, 0, true),
            () -> x.whyNot(0, 1440, 0)};
    }

    private static void nothingChanges() {
        sentence("A call that throws an exception changes nothing.");
        for (int kind = 0; kind < 18; kind++) {
            CapWallets x = new CapWallets();
            type(x, "0d0:0+0;");
            long[] before = new long[9];
            for (int i = 0; i < 9; i++) {
                before[i] = lookOver(x);
                switch (i % 3) {
                    case 0: x.tap(0, i, 0, i, true); break;
                    case 1: x.settle(0); break;
                    default: x.set(2, i); break;
                }
            }
            long all = x.digest();
            String got = thrown(refused(x)[kind]);
            is("refused call " + kind + " threw " + got, got.equals("nothing") ? 1 : 0, 0);
            is("the state", x.digest(), all);
            is("saved states", x.count(9), 6);
            for (int i = 8; i >= 3; i--) {
                x.undo();
                is("the saved states behind refused call " + kind, lookOver(x), before[i]);
            }
            fails("undo", x, STATE, x::undo);
            is("the buffer", x.clearBuffer(), 8);
        }
        CapWallets full = withTaps(60);
        fails("a tap of the full", full, STATE, () -> full.tap(0, 0, 0, 0, true));
        for (int i = 5; i >= 0; i--) {
            is("left", full.undo(), i);
            is("taps", full.count(0), 54 + i);
        }
        CapWallets buffer = new CapWallets();
        type(buffer, "0d0:100+0;1d1:200-1;2d2:300+2;3d3:400-3;0d4:500+4;1d5:1000-5");
        fails("a character of the full buffer", buffer, STATE, () -> buffer.append(59));
        is("the buffer is as before", buffer.load(), 6);
    }

    private static void firstNamed() {
        sentence("If several exceptions apply, the one that is named first in the throws clause is thrown.");
        CapWallets x = withTaps(60);
        fails("tap: range ahead of 60 taps", x, ARGUMENT, () -> x.tap(4, 0, 0, 0, true));
        fails("tap: range ahead of 60 taps", x, ARGUMENT, () -> x.tap(0, 28, 0, 0, true));
        fails("tap: range ahead of 60 taps", x, ARGUMENT, () -> x.tap(0, 0, 1440, 0, true));
        fails("tap: range ahead of 60 taps", x, ARGUMENT, () -> x.tap(0, 0, 0, 10, true));
        fails("set: no such setting ahead of the range", x, INDEX, () -> x.set(6, -1));
        fails("set: no such setting ahead of the range", x, INDEX, () -> x.set(-1, 10000));
        fails("tapOf: no such tap ahead of what", x, INDEX, () -> x.tapOf(60, 8));
        fails("tapOf: no such tap ahead of what", x, INDEX, () -> x.tapOf(-1, -1));
        type(x, "............................................................");
        fails("append: the code ahead of 60 characters", x, ARGUMENT, () -> x.append(32));
        fails("append: the code ahead of 60 characters", x, ARGUMENT, () -> x.append(127));
        fails("claim: the range ahead of reason 1", x, ARGUMENT, () -> x.claim(60, 1440, 0));
        fails("whyNot: the range ahead of reason 1", x, ARGUMENT, () -> x.whyNot(-1, 0, -1));
    }

    private static void tapsAndRides() {
        wallets();
        days();
        weeks();
        stations();
        minutes();
        inOrOut();
        mostTaps();
        placesByTime();
        placesAtOneTime();
        placesOfAll();
        nextTap();
        sameDay();
        rideMinutes();
        ridesAlone();
        dayOfRide();
        fares();
    }

    private static void moneyAndClaims() {
        dayCap();
        weekCap();
        settling();
        settledAnew();
        missingTap();
        latestTap();
        firstReason();
        noSuchTap();
        twoClaims();
        removedClaims();
        claimsOfTheFull();
        noRideTogether();
        settings();
    }

    private static void textAndUndo() {
        fullBuffer();
        oneOrMore();
        numbersOfText();
        leadingZeros();
        beginnings();
        savedBy();
        countedSoFar();
        notSaved();
        sixSaved();
        nothingChanges();
        firstNamed();
    }

    public static void main(String[] args) {
        callsOfAnObject();
        tapsAndRides();
        moneyAndClaims();
        textAndUndo();
        System.out.println(sentences + " sentences, " + checks + " checks, " + wrong + " wrong");
        if (wrong != 0) {
            System.exit(1);
        }
    }
}
