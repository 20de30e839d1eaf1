import java.util.ArrayDeque;
import java.util.ArrayList;
import java.util.Comparator;
import java.util.List;
import java.util.Objects;
import java.util.regex.Matcher;
import java.util.regex.Pattern;

/**
 * Long runs of calls on the class and on a plain model of the document, side by side: every answer, every
 * exception, and the digest behind every step are the same. The calls come from a fixed row of numbers, and no object
 * gets more than the 512 calls for which the document speaks.
 */
public final class ModelTest {
    private static final int RUNS = 600;
    private static final int CALLS = 512;
    /** The most calls of one step: a text of five taps, typed, read and loaded, and the looks behind it. */
    private static final int STEP = 70;
    private static final String TAP_TEXT = "[0-3]d(0|[1-9]|1[0-9]|2[0-7]):(0|[1-9][0-9]{0,2}|1[0-3][0-9]{2}|14[0-3][0-9])[+-][0-9]";
    private static final Pattern TEXT = Pattern.compile(TAP_TEXT + "(;" + TAP_TEXT + ")*");

    private static final class Row {
        final int wallet;
        final int day;
        final int minute;
        final int station;
        final boolean in;
        final boolean claimed;
        final int came;

        Row(int wallet, int day, int minute, int station, boolean in, boolean claimed, int came) {
            this.wallet = wallet;
            this.day = day;
            this.minute = minute;
            this.station = station;
            this.in = in;
            this.claimed = claimed;
            this.came = came;
        }
    }

    private static final class Entry {
        final int wallet;
        final int week;
        final int sum;

        Entry(int wallet, int week, int sum) {
            this.wallet = wallet;
            this.week = week;
            this.sum = sum;
        }
    }

    /** Keeps what happened, and works every answer out from that anew. */
    private static final class Model {
        List<Row> rows = new ArrayList<>();
        int[] settings = {180, 60, 420, 120, 700, 2800};
        List<Entry> entries = new ArrayList<>();
        List<int[]> claims = new ArrayList<>();
        int refused = 0;
        int came = 0;

        Model copy() {
            Model m = new Model();
            m.rows = new ArrayList<>(rows);
            m.settings = settings.clone();
            m.entries = new ArrayList<>(entries);
            m.claims = new ArrayList<>(claims);
            m.refused = refused;
            m.came = came;
            return m;
        }

        int come(int wallet, int day, int minute, int station, boolean in, boolean claimed) {
            Row row = new Row(wallet, day, minute, station, in, claimed, came++);
            rows.add(row);
            rows.sort(Comparator.<Row>comparingInt(r -> r.day).thenComparingInt(r -> r.minute).thenComparingInt(r -> r.came));
            return rows.indexOf(row);
        }

        Row nextOf(Row row) {
            for (int i = rows.indexOf(row) + 1; i < rows.size(); i++) {
                if (rows.get(i).wallet == row.wallet) {
                    return rows.get(i);
                }
            }
            return null;
        }

        Row previousOf(Row row) {
            for (int i = rows.indexOf(row) - 1; i >= 0; i--) {
                if (rows.get(i).wallet == row.wallet) {
                    return rows.get(i);
                }
            }
            return null;
        }

        boolean ride(Row a, Row b) {
            return a != null && b != null && a.in && !b.in && a.day == b.day && b.minute - a.minute <= settings[3];
        }

        Row mateOf(Row row) {
            if (row.in) {
                Row next = nextOf(row);
                return ride(row, next) ? next : null;
            }
            Row previous = previousOf(row);
            return ride(previous, row) ? previous : null;
        }

        int fareOf(Row row) {
            Row mate = mateOf(row);
            return mate == null ? settings[2] : settings[0] + settings[1] * Math.abs(row.station / 2 - mate.station / 2);
        }

        int day(int wallet, int day, int what) {
            int rides = 0;
            int alone = 0;
            int fares = 0;
            for (Row row : rows) {
                if (row.wallet == wallet && row.day == day) {
                    Row mate = mateOf(row);
                    if (mate == null || row.in) {
                        rides++;
                        fares += fareOf(row);
                    }
                    alone += mate == null ? 1 : 0;
                }
            }
            return new int[] {rides, alone, fares, Math.min(fares, settings[4])}[what];
        }

        int days(int wallet, int week, int what) {
            int sum = 0;
            for (int day = 7 * week; day < 7 * week + 7; day++) {
                sum += day(wallet, day, what);
            }
            return sum;
        }

        int cost(int wallet, int week) {
            return Math.min(days(wallet, week, 3), settings[5]);
        }

        int charged(int wallet, int week) {
            return entries.stream().filter(e -> e.wallet == wallet && e.week == week).mapToInt(e -> e.sum).sum();
        }

        int settled(int wallet, int week) {
            return (int) entries.stream().filter(e -> e.wallet == wallet && e.week == week).count();
        }

        int claimed(int wallet, int week) {
            return (int) claims.stream().filter(c -> c[0] == wallet && c[1] == week).count();
        }

        int week(int wallet, int week, int what) {
            switch (what) {
                case 0: return days(wallet, week, 0);
                case 1: return days(wallet, week, 2);
                case 2: return days(wallet, week, 3);
                case 3: return cost(wallet, week);
                case 4: return charged(wallet, week);
                case 5: return claimed(wallet, week);
                default: return settled(wallet, week);
            }
        }

        int weeks(int what) {
            int sum = 0;
            for (int i = 0; i < 16; i++) {
                sum += week(i / 4, i % 4, what);
            }
            return sum;
        }

        int anew() {
            int found = 0;
            for (int i = 0; i < 16; i++) {
                found += settled(i / 4, i % 4) > 0 && charged(i / 4, i % 4) != cost(i / 4, i % 4) ? 1 : 0;
            }
            return found;
        }

        int ledger(int wallet, int back, int what) {
            List<Entry> own = new ArrayList<>();
            for (Entry e : entries) {
                if (e.wallet == wallet) {
                    own.add(0, e);
                }
            }
            return back >= own.size() ? -1 : what == 0 ? own.get(back).week : own.get(back).sum + 100000;
        }

        int ifTapped(int wallet, int day, int minute, int station, boolean in) {
            Model m = copy();
            m.come(wallet, day, minute, station, in, false);
            return m.cost(wallet, day / 7) - cost(wallet, day / 7) + 100000;
        }

        int reason(int place, int minute, int station) {
            if (place < 0 || place >= rows.size() || mateOf(rows.get(place)) != null) {
                return 1;
            }
            Row row = rows.get(place);
            if (row.in && minute < row.minute || !row.in && minute > row.minute) {
                return 2;
            }
            if (claimed(row.wallet, row.day / 7) >= 2) {
                return 3;
            }
            if (rows.size() >= 60) {
                return 4;
            }
            Model m = copy();
            int at = m.come(row.wallet, row.day, minute, station, !row.in, true);
            return m.mateOf(row) == m.rows.get(at) ? 0 : 5;
        }

        int tapOf(int place, int what) {
            Row row = rows.get(place);
            Row mate = mateOf(row);
            return new int[] {row.wallet, row.day, row.minute, row.station, row.in ? 1 : 0,
                mate == null ? -1 : rows.indexOf(mate), fareOf(row), row.claimed ? 1 : 0}[what];
        }

        int leaky() {
            int[] leaks = new int[10];
            rows.stream().filter(r -> mateOf(r) == null).forEach(r -> leaks[r.station]++);
            int best = -1;
            for (int s = 9; s >= 0; s--) {
                if (leaks[s] > 0 && (best < 0 || leaks[s] >= leaks[best])) {
                    best = s;
                }
            }
            return best;
        }

        int leastCap() {
            int now = weeks(3);
            int[] sums = new int[16];
            for (int i = 0; i < 16; i++) {
                sums[i] = days(i / 4, i % 4, 3);
            }
            for (int cap = 0; ; cap++) {
                int cost = 0;
                for (int sum : sums) {
                    cost += Math.min(sum, cap);
                }
                if (cost == now) {
                    return cap;
                }
            }
        }

        double capShare() {
            int fares = weeks(1);
            return fares == 0 ? 1.0 : (double) weeks(3) / fares;
        }
    }

    private final Numbers numbers;
    private final CapWallets real = new CapWallets();
    private Model model = new Model();
    private final ArrayDeque<Model> saved = new ArrayDeque<>();
    private final StringBuilder buffer = new StringBuilder();
    private final List<String> calls = new ArrayList<>();
    private final int run;
    private int focus = 28;

    private ModelTest(int run) {
        this.run = run;
        numbers = new Numbers(run);
    }

    /** A fixed row of numbers for each run. */
    private static final class Numbers {
        private long state;

        Numbers(long seed) {
            state = seed * 0x9E3779B97F4A7C15L + 12345;
        }

        int below(int bound) {
            state = state * 6364136223846793005L + 1442695040888963407L;
            return (int) ((state >>> 33) % bound);
        }
    }

    private interface Call {
        Object run();
    }

    private static Object answer(Call call) {
        try {
            return call.run();
        } catch (RuntimeException e) {
            return "throws." + e.getClass().getSimpleName();
        }
    }

    private static int argument(boolean right) {
        if (!right) {
            throw new IllegalArgumentException();
        }
        return 0;
    }

    private static int index(boolean right) {
        if (!right) {
            throw new IndexOutOfBoundsException();
        }
        return 0;
    }

    private static int state(boolean right) {
        if (!right) {
            throw new IllegalStateException();
        }
        return 0;
    }

    private static boolean in(int value, int bound) {
        return value >= 0 && value < bound;
    }

    private void save() {
        saved.addLast(model);
        model = model.copy();
        if (saved.size() > 6) {
            saved.removeFirst();
        }
    }

    private int count(int what) {
        switch (what) {
            case 0: return model.rows.size();
            case 1: return model.weeks(0);
            case 2: return (int) model.rows.stream().filter(r -> model.mateOf(r) == null).count();
            case 3: return model.weeks(3);
            case 4: return model.weeks(4);
            case 5: return (int) model.entries.stream().filter(e -> e.sum < 0).count();
            case 6: return -model.entries.stream().filter(e -> e.sum < 0).mapToInt(e -> e.sum).sum();
            case 7: return model.refused;
            case 8: return model.anew();
            default: return saved.size();
        }
    }

    private int firstError() {
        for (int length = 1; length <= buffer.length(); length++) {
            Matcher matcher = TEXT.matcher(buffer.substring(0, length));
            if (!matcher.matches() && !matcher.hitEnd()) {
                return length - 1;
            }
        }
        return buffer.length();
    }

    private long digest() {
        List<Long> values = new ArrayList<>();
        for (int i = 0; i < 10; i++) {
            values.add((long) count(i));
        }
        for (int value : model.settings) {
            values.add((long) value);
        }
        for (int place = 0; place < model.rows.size(); place++) {
            for (int what = 0; what < 8; what++) {
                values.add((long) model.tapOf(place, what));
            }
        }
        for (int wallet = 0; wallet < 4; wallet++) {
            for (int day : new int[] {0, 6, 7, 27}) {
                for (int what = 0; what < 4; what++) {
                    values.add((long) model.day(wallet, day, what));
                }
            }
            for (int i = 0; i < 28; i++) {
                values.add((long) model.week(wallet, i / 7, i % 7));
            }
            for (int i = 0; i < 16; i++) {
                values.add((long) model.ledger(wallet, i / 2, i % 2));
            }
        }
        for (int wallet = 0; wallet < 4; wallet++) {
            values.add((long) model.ifTapped(wallet, 6, 500, 4, true));
        }
        values.add((long) model.leaky());
        values.add((long) model.leastCap());
        values.add(Double.doubleToLongBits(model.capShare()));
        values.add((long) buffer.length());
        buffer.chars().forEach(c -> values.add((long) c));
        long hash = 3023;
        for (long value : values) {
            hash = 31 * hash + value;
        }
        return hash;
    }

    private boolean same(String call, Object got, Object want) {
        calls.add(call + " = " + want);
        if (Objects.equals(got, want)) {
            return true;
        }
        System.out.println("run " + run + ": " + calls);
        System.out.println(call + " answered " + got + ", due is " + want);
        return false;
    }

    /** Mostly a value below the bound, at times one that lies about an edge or far out. */
    private int value(int bound) {
        switch (numbers.below(40)) {
            case 0: return bound - numbers.below(3) + 1;
            case 1: return numbers.below(3) - 2;
            case 2: return numbers.below(2) == 0 ? Integer.MAX_VALUE : Integer.MIN_VALUE;
            default: return numbers.below(bound);
        }
    }

    private int minute() {
        return numbers.below(3) > 0 ? 480 + 10 * numbers.below(30) : value(1440);
    }

    private int day() {
        return numbers.below(20) == 0 ? value(28) : numbers.below(focus);
    }

    private boolean tap() {
        int w = value(4);
        int d = day();
        int m = minute();
        int s = value(10);
        boolean in = numbers.below(2) == 0;
        String words = "(" + w + ", " + d + ", " + m + ", " + s + ", " + in + ")";
        if (numbers.below(3) == 0) {
            return same("ifTapped" + words, answer(() -> real.ifTapped(w, d, m, s, in)), answer(() -> {
                argument(in(w, 4) && in(d, 28) && in(m, 1440) && in(s, 10));
                return model.ifTapped(w, d, m, s, in);
            }));
        }
        return same("tap" + words, answer(() -> real.tap(w, d, m, s, in)), answer(() -> {
            argument(in(w, 4) && in(d, 28) && in(m, 1440) && in(s, 10));
            state(model.rows.size() < 60);
            save();
            return model.come(w, d, m, s, in, false);
        }));
    }

    private boolean remove() {
        int p = value(Math.max(1, model.rows.size()));
        return same("remove(" + p + ")", answer(() -> real.remove(p)), answer(() -> {
            index(in(p, model.rows.size()));
            save();
            model.rows.remove(p);
            return model.rows.size();
        }));
    }

    private boolean claim() {
        int p = value(Math.max(1, model.rows.size()));
        boolean near = in(p, model.rows.size()) && numbers.below(5) > 0;
        int m = near ? model.rows.get(p).minute + (model.rows.get(p).in ? 1 : -1) * (numbers.below(40) - 3) : minute();
        int s = value(10);
        String words = "(" + p + ", " + m + ", " + s + ")";
        if (!same("whyNot" + words, answer(() -> real.whyNot(p, m, s)), answer(() -> {
            argument(in(m, 1440) && in(s, 10));
            return model.reason(p, m, s);
        }))) {
            return false;
        }
        return same("claim" + words, answer(() -> real.claim(p, m, s)), answer(() -> {
            argument(in(m, 1440) && in(s, 10));
            int reason = model.reason(p, m, s);
            save();
            if (reason == 0) {
                Row row = model.rows.get(p);
                model.claims.add(new int[] {row.wallet, row.day / 7});
                model.come(row.wallet, row.day, m, s, !row.in, true);
            } else {
                model.refused++;
            }
            return reason;
        }));
    }

    private boolean settle() {
        int w = numbers.below(10) == 0 ? value(4) : numbers.below((focus + 6) / 7);
        return same("settle(" + w + ")", answer(() -> real.settle(w)), answer(() -> {
            argument(in(w, 4));
            save();
            int sum = 0;
            for (int wallet = 0; wallet < 4; wallet++) {
                int charge = model.cost(wallet, w) - model.charged(wallet, w);
                model.entries.add(new Entry(wallet, w, charge));
                sum += charge;
            }
            return sum + 100000;
        }));
    }

    private boolean set() {
        int s = value(6);
        int[] least = {0, 0, 0, 1, 0, 0};
        int[] most = {999, 999, 999, 1439, 9999, 9999};
        int v = in(s, 6) && numbers.below(3) > 0 ? numbers.below(most[s] / 4) : value(10000);
        return same("set(" + s + ", " + v + ")", answer(() -> real.set(s, v)), answer(() -> {
            index(in(s, 6));
            argument(v >= least[s] && v <= most[s]);
            save();
            int previous = model.settings[s];
            model.settings[s] = v;
            return previous;
        }));
    }

    private boolean append(int code) {
        return same("append(" + code + ")", answer(() -> real.append(code)), answer(() -> {
            argument(code >= 33 && code <= 126);
            state(buffer.length() < 60);
            buffer.append((char) code);
            return buffer.length();
        }));
    }

    private String tapText() {
        return numbers.below(4) + "d" + numbers.below(28) + ":" + numbers.below(numbers.below(2) == 0 ? 1440 : 20)
            + (numbers.below(2) == 0 ? "+" : "-") + numbers.below(10);
    }

    private boolean text() {
        StringBuilder text = new StringBuilder();
        int taps = 1 + numbers.below(5);
        for (int i = 0; i < taps; i++) {
            text.append(i == 0 ? "" : ";").append(tapText());
        }
        if (numbers.below(3) == 0) {
            String signs = "0123456789d:+-;";
            text.setCharAt(numbers.below(text.length()), signs.charAt(numbers.below(signs.length())));
        }
        if (numbers.below(6) == 0) {
            text.setLength(numbers.below(text.length()) + 1);
        }
        if (numbers.below(8) > 0 && !same("clearBuffer()", answer(real::clearBuffer), answer(this::clear))) {
            return false;
        }
        for (int i = 0; i < text.length(); i++) {
            if (!append(text.charAt(i))) {
                return false;
            }
        }
        return same("firstError()", answer(real::firstError), answer(this::firstError))
            && (numbers.below(8) == 0 || load());
    }

    private int clear() {
        int length = buffer.length();
        buffer.setLength(0);
        return length;
    }

    private boolean load() {
        return same("load()", answer(real::load), answer(() -> {
            argument(TEXT.matcher(buffer).matches());
            save();
            int come = 0;
            for (String t : buffer.toString().split(";")) {
                if (model.rows.size() < 60) {
                    String[] parts = t.split("[d:+-]");
                    model.come(Integer.parseInt(parts[0]), Integer.parseInt(parts[1]), Integer.parseInt(parts[2]),
                        Integer.parseInt(parts[3]), t.contains("+"), false);
                    come++;
                }
            }
            buffer.setLength(0);
            return come;
        }));
    }

    private boolean undo() {
        return same("undo()", answer(real::undo), answer(() -> {
            state(!saved.isEmpty());
            model = saved.removeLast();
            return saved.size();
        }));
    }

    private boolean look() {
        int a = value(4);
        int b = value(28);
        int c = value(8);
        int p = value(60);
        int size = model.rows.size();
        return same("tapOf(" + p + ", " + c + ")", answer(() -> real.tapOf(p, c)), answer(() -> {
            index(in(p, size));
            argument(in(c, 8));
            return model.tapOf(p, c);
        })) && same("day(" + a + ", " + b + ", " + c + ")", answer(() -> real.day(a, b, c)), answer(() -> {
            argument(in(a, 4) && in(b, 28) && in(c, 4));
            return model.day(a, b, c);
        })) && same("week(" + a + ", " + b / 7 + ", " + c + ")", answer(() -> real.week(a, b / 7, c)), answer(() -> {
            argument(in(a, 4) && in(b / 7, 4) && in(c, 7));
            return model.week(a, b / 7, c);
        })) && same("ledger(" + a + ", " + c + ", " + b % 3 + ")", answer(() -> real.ledger(a, c, b % 3)), answer(() -> {
            argument(in(a, 4) && in(c, 8) && in(b % 3, 2));
            return model.ledger(a, c, b % 3);
        })) && same("count(" + p % 11 + ")", answer(() -> real.count(p % 11)), answer(() -> {
            argument(in(p % 11, 10));
            return count(p % 11);
        }));
    }

    private boolean callOne(int taps) {
        int kind = numbers.below(100);
        if (kind < taps) {
            return tap();
        }
        switch (kind % 9) {
            case 0: return remove();
            case 1: case 2: return claim();
            case 3: return settle();
            case 4: return set();
            case 5: return numbers.below(4) == 0 ? text() : append(numbers.below(130));
            case 6: return undo();
            case 7: return numbers.below(10) == 0 ? load() : look();
            default: return settle() && look();
        }
    }

    private boolean runs() {
        focus = new int[] {1, 2, 9, 28}[numbers.below(4)];
        int taps = 10 + numbers.below(75);
        for (int i = 0; calls.size() + STEP <= CALLS; i++) {
            if (!callOne(taps)) {
                return false;
            }
            if (i % 5 == 0) {
                if (!same("leaky()", real.leaky(), model.leaky()) || !same("leastCap()", real.leastCap(), model.leastCap())
                    || !same("capShare()", real.capShare(), model.capShare())) {
                    return false;
                }
            }
            if (!same("digest()", real.digest(), digest())) {
                return false;
            }
        }
        return true;
    }

    public static void main(String[] args) {
        for (int run = 0; run < RUNS; run++) {
            if (!new ModelTest(run).runs()) {
                System.exit(1);
            }
        }
        System.out.println(RUNS + " runs of up to " + CALLS + " calls are as in the model");
    }
}
