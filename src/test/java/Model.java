import java.util.ArrayList;
import java.util.Arrays;
import java.util.HashMap;
import java.util.HashSet;
import java.util.List;
import java.util.Map;
import java.util.NoSuchElementException;
import java.util.Set;
import java.util.TreeSet;

/**
 * The document once more, told as plainly as it can be, with no regard to time or room: what ModelTest holds the
 * class against. Texts are worked out straight from their things; the image is a list of calls done over again.
 */
final class Model {
    static final long TOP = 999999999L;

    record Writing(int minute, int word, int written, int job, int doing, boolean machine, boolean text,
            List<Integer> tests) {
    }

    static final class Work {
        int minutes, worth, hand, point, smin, sworth, more, state, way, began, left, handDone, at = -1, done, failed, asked;
        boolean wage;
        List<List<String>> lines;
        Set<Integer> reads = new HashSet<>();
        Set<Integer> writes = new TreeSet<>();
    }

    record Want(int shop, int good, int day, int weather, int n) {
    }

    final List<Integer> tape = new ArrayList<>();
    int fault = -1;
    List<int[]> log = new ArrayList<>();
    List<int[]> image;
    List<String> logTexts = new ArrayList<>();
    List<String> imageTexts;

    int minute, day, weather, out, running = -1, rings, caught, doings, testings;
    boolean paid;
    int[] words = new int[64];
    int[] olds = new int[64];
    List<Work> jobs = new ArrayList<>();
    List<Writing> rows = new ArrayList<>();
    List<Integer> told = new ArrayList<>();
    Map<Integer, int[]> lamps = new HashMap<>();
    List<Want> wants = new ArrayList<>();
    int[][] goods = {{1, 1, 1, 0}, {1, 1, 1, 0}, {1, 1, 1, 0}, {1, 1, 1, 0}};
    int[] fleet = new int[5];
    List<int[]> workers = new ArrayList<>();
    // of each test: lamp -> whether it was caught
    List<Map<Integer, Boolean>> tests = new ArrayList<>();

    private static void place(int n, int count) {
        if (n < 0 || n >= count) {
            throw new IndexOutOfBoundsException();
        }
    }

    private static void number(long n, long least, long most) {
        if (n < least || n > most) {
            throw new IllegalArgumentException();
        }
    }

    private static void what(int n, int most) {
        if (n < 0 || n > most) {
            throw new NoSuchElementException();
        }
    }

    /** One call of the face by its number, as ModelTest numbers them. */
    long call(int which, int[] a) {
        long answer = act(which, a);
        log.add(concat(which, a));
        return answer;
    }

    private static int[] concat(int which, int[] a) {
        int[] all = new int[a.length + 1];
        all[0] = which;
        System.arraycopy(a, 0, all, 1, a.length);
        return all;
    }

    private long act(int which, int[] a) {
        switch (which) {
            case 0: return feed(a);
            case 1: return end(a[0]);
            case 2: number(a[0], 0, 6); number(a[1], 0, 9); day = a[0]; weather = a[1]; return 0;
            case 3: place(a[0], 64); number(a[1], -TOP, TOP); olds[a[0]] = a[1]; return 0;
            case 4: place(a[0], 4); place(a[1], 4); number(a[2], 0, 99999); return tellIt(4 * a[0] + a[1], a[2]);
            case 5: place(a[0], 64); number(a[1], -TOP, TOP); return tellIt(a[0], a[1]);
            case 6: place(a[0], 64); return words[a[0]];
            case 7: place(a[0], 64); return as(a[0], a[1]);
            case 8: place(a[0], 64); return led(a[0], a[1]);
            case 9: return job(a);
            case 10: return fault;
            case 11: return shorter(a);
            case 12: place(a[0], jobs.size()); return bits(a[1] != 0 ? jobs.get(a[0]).writes : jobs.get(a[0]).reads);
            case 13: place(a[0], jobs.size()); return bits(leans(a[0]));
            case 14: return quarrel(a[0]);
            case 15: return order() != null && a[0] >= 0 && a[0] < jobs.size() ? order().get(a[0]) : -1;
            case 16: return way(a[0], a[1]);
            case 17: return drop(a[0]);
            case 18: return again(a[0]);
            case 19: return out(a[0]);
            case 20: return minutes(a[0]);
            case 21: place(a[0], jobs.size()); what(a[1], 9); return look(jobs.get(a[0]), a[0], a[1]);
            case 22: return lamp(a[0], a[1], a[2]);
            case 23: return test(a[0], a[1]);
            case 24: return doubted();
            case 25: place(a[0], jobs.size()); what(a[1], 1); return (a[1] == 0 ? isDoubted(a[0]) : beyond(a[0])) ? 1 : 0;
            default: return actMore(which, a);
        }
    }

    private long actMore(int which, int[] a) {
        switch (which) {
            case 26: return wanted(a);
            case 27: place(a[0], 4); place(a[1], 4); what(a[2], 3); return foretell(a[0], a[1], a[2]);
            case 28: place(a[0], 4); place(a[1], 4); return far(a[0], a[1]);
            case 29: return good(a);
            case 30: return fleet(a);
            case 31: return a[0] != 0 ? loads() : ovensEnd();
            case 32: place(a[0], 4); return cost(a[0]);
            case 33: return worker(a[0], a[1]);
            case 34: return alter(a[0], a[1], a[2]);
            case 35: place(a[0], workers.size()); what(a[1], 3); return pay(a[0], a[1]);
            case 36: return wages();
            case 37: number(a[0], 0, 1000); number(a[1], 0, 1000); return plan(a[0], a[1]).get(0);
            case 38: return which(a[0], a[1], a[2]);
            case 39: return a[0] != 0 ? two() : alone();
            case 40: return tear(a[0], a[1]);
            case 41: return check();
            case 42: image = new ArrayList<>(log); imageTexts = new ArrayList<>(logTexts); return 0;
            case 43: return back();
            case 44: return count(a[0]);
            default: throw new IllegalStateException("no such call");
        }
    }

    private long feed(int[] a) {
        if (tape.size() > 380) {
            return -1;
        }
        for (int n : a) {
            for (int i = 3; i >= 0; i--) {
                tape.add((n >> (8 * i)) & 255);
            }
        }
        return tape.size();
    }

    private long end(int n) {
        if (n < 0 || n > tape.size()) {
            return 0;
        }
        while (tape.size() > n) {
            tape.remove(tape.size() - 1);
        }
        return 1;
    }

    /** All that is not the tape is done over again on a new one. */
    private long back() {
        if (image == null) {
            return 0;
        }
        Model fresh = new Model();
        int texts = 0;
        for (int[] call : image) {
            int[] a = Arrays.copyOfRange(call, 1, call.length);
            if (call[0] == 9) {
                fresh.tape.clear();
                for (char c : imageTexts.get(texts++).toCharArray()) {
                    fresh.tape.add((int) c);
                }
            }
            if (call[0] > 1 && call[0] != 42 && call[0] != 43) {
                fresh.act(call[0], a);
            }
        }
        minute = fresh.minute;
        day = fresh.day;
        weather = fresh.weather;
        out = fresh.out;
        running = fresh.running;
        rings = fresh.rings;
        caught = fresh.caught;
        doings = fresh.doings;
        testings = fresh.testings;
        paid = fresh.paid;
        words = fresh.words;
        olds = fresh.olds;
        jobs = fresh.jobs;
        rows = fresh.rows;
        told = fresh.told;
        lamps = fresh.lamps;
        wants = fresh.wants;
        goods = fresh.goods;
        fleet = fresh.fleet;
        workers = fresh.workers;
        tests = fresh.tests;
        log = new ArrayList<>(image);
        logTexts = new ArrayList<>(imageTexts);
        return 1;
    }

    private long tellIt(int word, int n) {
        if (rings == 400) {
            return -1;
        }
        write(word, n, -1, ++doings, false, false);
        return ++rings;
    }

    private void write(int word, int value, int job, int doing, boolean machine, boolean text) {
        int[] lamp = lamps.get(word % 16);
        int n = machine && lamp != null && minute >= lamp[0] ? value ^ lamp[1] : value;
        words[word] = n;
        rows.add(new Writing(minute, word, n, job, doing, machine, text, new ArrayList<>(List.of(tests.size()))));
        told.add(n);
    }

    private int latest(int word, int until) {
        int found = -1;
        for (int i = 0; i < rows.size(); i++) {
            if (rows.get(i).word() == word && rows.get(i).minute() <= until) {
                found = i;
            }
        }
        return found;
    }

    private long as(int word, int until) {
        int row = latest(word, until);
        return row < 0 ? 0 : told.get(row);
    }

    private long led(int word, int until) {
        int row = latest(word, until);
        return row < 0 ? -2 : rows.get(row).job();
    }

    private long job(int[] a) {
        StringBuilder text = new StringBuilder();
        for (int b : tape) {
            text.append((char) b);
        }
        tape.clear();
        number(a[0], 1, 60);
        number(a[1], 0, 1000);
        number(a[2], 0, 480);
        number(a[3], 0, 60);
        Grammar grammar = new Grammar(text.toString());
        fault = grammar.fault();
        if (fault != -1) {
            throw new IllegalArgumentException();
        }
        if (jobs.size() == 12) {
            throw new UnsupportedOperationException();
        }
        Work w = new Work();
        w.minutes = a[0];
        w.worth = a[1];
        w.hand = a[2];
        w.point = a[3];
        w.wage = a[4] != 0;
        w.lines = grammar.lines();
        for (List<String> line : w.lines) {
            name(w, line);
        }
        jobs.add(w);
        logTexts.add(text.toString());
        return jobs.size() - 1;
    }

    private static void name(Work w, List<String> line) {
        Set<Integer> named = new HashSet<>();
        for (int i = 0; i + 1 < line.size(); i++) {
            if (line.get(i).equals("word")) {
                named.add(Integer.parseInt(line.get(i + 1)));
            }
        }
        int target = -1;
        int first = line.get(0).equals("repeat") ? 2 : 0;
        String head = line.get(first);
        if (head.equals("set") || head.equals("sum") || head.equals("round")) {
            target = Integer.parseInt(line.get(first + 1));
        }
        if (head.equals("round")) {
            named.add(target);
        }
        if (head.equals("sum")) {
            for (int i = Integer.parseInt(line.get(3)); i <= Integer.parseInt(line.get(5)); i++) {
                named.add(i);
            }
        }
        named.removeAll(w.writes);
        w.reads.addAll(named);
        if (target >= 0) {
            w.writes.add(target);
        }
    }

    private long shorter(int[] a) {
        place(a[0], jobs.size());
        number(a[1], 0, 60);
        number(a[2], 0, 1000);
        number(a[3], -9999, 9999);
        Work w = jobs.get(a[0]);
        w.smin = a[1];
        w.sworth = a[2];
        w.more = a[3];
        return 0;
    }

    private static long bits(Set<Integer> set) {
        long bits = 0;
        for (int i : set) {
            bits += 1L << i;
        }
        return bits;
    }

    private Set<Integer> leans(int job) {
        Set<Integer> on = new HashSet<>();
        for (int i = 0; i < jobs.size(); i++) {
            for (int word : jobs.get(i).writes) {
                if (i != job && jobs.get(job).reads.contains(word)) {
                    on.add(i);
                }
            }
        }
        return on;
    }

    private long quarrel(int n) {
        List<Integer> all = new ArrayList<>();
        for (int i = 0; i < jobs.size(); i++) {
            for (int j = i + 1; j < jobs.size(); j++) {
                Set<Integer> both = new HashSet<>(jobs.get(i).writes);
                both.retainAll(jobs.get(j).writes);
                if (!both.isEmpty()) {
                    all.add(12 * i + j);
                }
            }
        }
        return n >= 0 && n < all.size() ? all.get(n) : -1;
    }

    private List<Integer> order() {
        List<Integer> order = new ArrayList<>();
        while (order.size() < jobs.size()) {
            int next = -1;
            for (int i = jobs.size() - 1; i >= 0; i--) {
                if (!order.contains(i) && order.containsAll(leans(i))) {
                    next = i;
                }
            }
            if (next < 0) {
                return null;
            }
            order.add(next);
        }
        return order;
    }

    private long way(int job, int how) {
        place(job, jobs.size());
        number(how, 0, 2);
        Work w = jobs.get(job);
        if (w.state != 0 || w.handDone != 0 || how == 1 && w.smin == 0 || how == 2 && w.hand == 0) {
            return 0;
        }
        w.way = how;
        return 1;
    }

    private long drop(int job) {
        place(job, jobs.size());
        if (jobs.get(job).state != 0) {
            return 0;
        }
        jobs.get(job).state = 5;
        return 1;
    }

    private long again(int job) {
        place(job, jobs.size());
        Work w = jobs.get(job);
        if (w.state < 2) {
            return 0;
        }
        w.state = 0;
        w.handDone = 0;
        return 1;
    }

    private long out(int n) {
        number(n, 1, 60);
        if (out + n > 480) {
            throw new IllegalStateException();
        }
        out += n;
        if (running >= 0) {
            Work w = jobs.get(running);
            int was = w.began - w.left;
            int keptAt = 0;
            for (int k = w.point; w.point > 0 && k <= was; k += w.point) {
                keptAt = k;
            }
            w.left = w.began - keptAt;
        }
        return out;
    }

    private long minutes(int n) {
        number(n, 0, 120);
        for (int i = 0; i < n; i++) {
            if (minute < 480) {
                minute++;
                machine();
                clerks();
            }
        }
        return minute;
    }

    private void machine() {
        if (out > 0) {
            out--;
            return;
        }
        if (running < 0) {
            List<Integer> order = order();
            for (int i = 0; i < jobs.size() && running < 0; i++) {
                int job = order == null ? i : order.get(i);
                Work w = jobs.get(job);
                boolean may = w.state == 0 && w.way != 2;
                for (int on : leans(job)) {
                    may &= jobs.get(on).state >= 2 && jobs.get(on).state <= 4;
                }
                if (may) {
                    running = job;
                    w.state = 1;
                    w.began = w.way == 1 ? w.smin : w.minutes;
                    w.left = w.began;
                }
            }
        }
        if (running >= 0) {
            Work w = jobs.get(running);
            w.left = Math.max(0, w.left - 1);
            if (w.left == 0) {
                int job = running;
                running = -1;
                doIt(job, true);
            }
        }
    }

    private void clerks() {
        for (int job = 0; job < jobs.size(); job++) {
            Work w = jobs.get(job);
            if (w.state == 0 && w.way == 2) {
                w.handDone++;
                if (w.handDone == w.hand) {
                    doIt(job, false);
                }
                return;
            }
        }
    }

    private void doIt(int job, boolean machine) {
        Work w = jobs.get(job);
        int doing = ++doings;
        boolean shortly = machine && w.way == 1;
        boolean fine = true;
        if (shortly) {
            for (int word : w.writes) {
                long n = (long) olds[word] + w.more;
                fine = fine && n >= -TOP && n <= TOP;
                if (fine) {
                    write(word, (int) n, job, doing, true, false);
                }
            }
        } else {
            for (List<String> line : w.lines) {
                fine = fine && new Sense(w, line).happens(job, doing, machine);
            }
        }
        w.state = !fine ? 6 : !machine ? 4 : shortly ? 3 : 2;
        w.at = minute;
        w.done++;
        w.failed += fine ? 0 : 1;
    }

    /** What a line means, thing by thing. */
    private final class Sense {
        final Work work;
        final List<String> line;
        int at;
        int[] seen = words;

        Sense(Work work, List<String> line) {
            this.work = work;
            this.line = line;
        }

        String take() {
            return line.get(at++);
        }

        boolean next(String thing) {
            if (at < line.size() && line.get(at).equals(thing)) {
                at++;
                return true;
            }
            return false;
        }

        int n() {
            return Integer.parseInt(take());
        }

        boolean happens(int job, int doing, boolean machine) {
            String head = take();
            if (head.equals("ask") || head.equals("stop")) {
                take();
                boolean holds = any();
                if (head.equals("ask") && holds) {
                    work.asked++;
                }
                return head.equals("ask") || !holds;
            }
            int times = 1;
            if (head.equals("repeat")) {
                times = n();
                head = take();
            }
            int word = n();
            long value = words[word];
            take();
            if (head.equals("set")) {
                int begin = at;
                seen = words.clone();
                for (int i = 0; i < times; i++) {
                    at = begin;
                    value = sum();
                    if (value < -TOP || value > TOP) {
                        return false;
                    }
                    seen[word] = (int) value;
                }
            } else if (head.equals("sum")) {
                int from = n();
                take();
                int to = n();
                value = 0;
                for (int i = from; i <= to; i++) {
                    value += words[i];
                }
            } else {
                int by = n();
                long best = Long.MIN_VALUE;
                for (long m = (value / by - 2) * by; m <= (value / by + 2) * by; m += by) {
                    if (best == Long.MIN_VALUE || Math.abs(m - value) <= Math.abs(best - value)) {
                        best = m;
                    }
                }
                value = best;
            }
            if (value < -TOP || value > TOP) {
                return false;
            }
            write(word, (int) value, job, doing, machine, true);
            return true;
        }

        boolean any() {
            boolean holds = all();
            while (next("or")) {
                holds |= all();
            }
            return holds;
        }

        boolean all() {
            boolean holds = one();
            while (next("and")) {
                holds &= one();
            }
            return holds;
        }

        boolean one() {
            if (next("not")) {
                return !one();
            }
            if (next("(")) {
                boolean holds = any();
                take();
                return holds;
            }
            long left = sum();
            boolean less = take().equals("<");
            long right = sum();
            return less ? left < right : left > right;
        }

        long sum() {
            long sum = part();
            while (true) {
                if (next("+")) {
                    sum += part();
                } else if (next("-")) {
                    sum -= part();
                } else {
                    return sum;
                }
            }
        }

        long part() {
            if (Character.isDigit(line.get(at).charAt(0))) {
                long n = n();
                return next("*") ? n * part() : n;
            }
            switch (take()) {
                case "word": return seen[n()];
                case "old": return olds[n()];
                case "day": return day;
                default: return weather;
            }
        }
    }

    private long look(Work w, int job, int what) {
        int[] all = {w.state, w.state == 1 ? w.left : 0, w.handDone, w.way, w.lines.size(), w.at, w.done, w.failed, w.asked,
            order() == null ? -1 : order().indexOf(job)};
        return all[what];
    }

    private long lamp(int lamp, int at, int mask) {
        place(lamp, 16);
        number(at, minute, 480);
        if (mask == 0) {
            throw new IllegalArgumentException();
        }
        return lamps.putIfAbsent(lamp, new int[] {at, mask}) == null ? 1 : 0;
    }

    private long test(int from, int to) {
        place(from, 16);
        place(to, 16);
        number(to, from, 15);
        Map<Integer, Boolean> test = new HashMap<>();
        long bits = 0;
        for (int lamp = from; lamp <= to; lamp++) {
            boolean failed = lamps.containsKey(lamp) && lamps.get(lamp)[0] <= minute;
            test.put(lamp, failed);
            if (failed) {
                bits += 1 << lamp;
                caught++;
                lamps.remove(lamp);
            }
        }
        tests.add(test);
        return bits;
    }

    private boolean bad(int row, Map<Integer, Boolean> known) {
        if (known.containsKey(row)) {
            return known.get(row);
        }
        Writing w = rows.get(row);
        boolean bad = false;
        if (w.machine()) {
            for (int t = w.tests().get(0); t < tests.size(); t++) {
                if (tests.get(t).containsKey(w.word() % 16)) {
                    bad = tests.get(t).get(w.word() % 16);
                    break;
                }
            }
        }
        if (!bad && w.text()) {
            int first = row;
            while (first > 0 && rows.get(first - 1).doing() == w.doing()) {
                first--;
            }
            for (int word : jobs.get(w.job()).reads) {
                int ahead = first - 1;
                while (ahead >= 0 && rows.get(ahead).word() != word) {
                    ahead--;
                }
                bad |= ahead >= 0 && bad(ahead, known);
            }
        }
        known.put(row, bad);
        return bad;
    }

    private long doubted() {
        Map<Integer, Boolean> known = new HashMap<>();
        for (int i = 0; i < rows.size(); i++) {
            bad(i, known);
        }
        long bits = 0;
        for (int word = 0; word < 64; word++) {
            int row = latest(word, 480);
            if (row >= 0 && bad(row, known)) {
                bits |= 1L << word;
            }
        }
        return bits;
    }

    private boolean isDoubted(int job) {
        return (bits(jobs.get(job).writes) & doubted()) != 0;
    }

    private boolean beyond(int job) {
        Set<Integer> among = new TreeSet<>(Set.of(job));
        List<Integer> more = new ArrayList<>(among);
        while (!more.isEmpty()) {
            for (int on : leans(more.remove(0))) {
                if (among.add(on)) {
                    more.add(on);
                }
            }
        }
        long doubted = doubted();
        for (int i : among) {
            Work w = jobs.get(i);
            if (w.state != 2 && w.state != 4 || (bits(w.writes) & doubted) != 0) {
                return false;
            }
        }
        return true;
    }

    private long wanted(int[] a) {
        place(a[0], 4);
        place(a[1], 4);
        number(a[2], 0, 6);
        number(a[3], 0, 9);
        number(a[4], 0, 99999);
        if (wants.size() == 100) {
            return -1;
        }
        wants.add(new Want(a[0], a[1], a[2], a[3], a[4]));
        return wants.size();
    }

    private List<Want> latestWants(int shop, int good) {
        List<Want> those = new ArrayList<>();
        for (Want w : wants) {
            if (w.shop() == shop && w.good() == good && w.day() == day) {
                those.add(w);
            }
        }
        return those.subList(Math.max(0, those.size() - 4), those.size());
    }

    private long foretell(int shop, int good, int what) {
        List<Want> those = latestWants(shop, good);
        if (what == 3) {
            return those.size();
        }
        if (those.isEmpty()) {
            return -1;
        }
        int[] n = those.stream().mapToInt(Want::n).sorted().toArray();
        int mean = Arrays.stream(n).sum() / n.length;
        int meanWeather = those.stream().mapToInt(Want::weather).sum() / n.length;
        return what == 1 ? n[0] : what == 2 ? n[n.length - 1] : Math.max(0, mean + 2 * weather - 2 * meanWeather);
    }

    private long far(int shop, int good) {
        long n = words[4 * shop + good];
        return !latestWants(shop, good).isEmpty()
                && (n < foretell(shop, good, 1) / 2 || n > 2 * foretell(shop, good, 2)) ? 1 : 0;
    }

    private long good(int[] a) {
        place(a[0], 4);
        number(a[1], 1, 9999);
        number(a[2], 1, 100);
        number(a[3], 1, 100);
        number(a[4], 0, 9999);
        goods[a[0]] = new int[] {a[1], a[2], a[3], a[4]};
        return 0;
    }

    private long fleet(int[] a) {
        for (int i = 0; i < 5; i++) {
            number(a[i], 0, i < 3 ? 100000000 : 1000000);
        }
        fleet = a.clone();
        return 0;
    }

    private long wish(int shop, int good) {
        return words[4 * shop + good] < 0 ? 0 : words[4 * shop + good];
    }

    private long number(int good) {
        return wish(0, good) + wish(1, good) + wish(2, good) + wish(3, good);
    }

    private long baking(int good) {
        long n = number(good);
        return (n / goods[good][0] + (n % goods[good][0] == 0 ? 0 : 1)) * goods[good][1];
    }

    private long ovensEnd() {
        long best = Long.MAX_VALUE;
        for (int a = 0; a < 3; a++) {
            for (int b = 0; b < 3; b++) {
                for (int c = 0; c < 3; c++) {
                    for (int d = 0; d < 3; d++) {
                        long[] oven = new long[3];
                        oven[a] += baking(0);
                        oven[b] += baking(1);
                        oven[c] += baking(2);
                        oven[d] += baking(3);
                        best = Math.min(best, Math.max(oven[0], Math.max(oven[1], oven[2])));
                    }
                }
            }
        }
        return best;
    }

    private long loads() {
        return loads(0, new long[3]);
    }

    private long loads(int shop, long[] vans) {
        if (shop == 4) {
            long most = 0;
            for (int i = 0; i < 3; i++) {
                most = Math.max(most, vans[i] - fleet[i]);
            }
            return most;
        }
        long load = 0;
        for (int good = 0; good < 4; good++) {
            load += wish(shop, good) * goods[good][2];
        }
        long best = Long.MAX_VALUE;
        for (int i = 0; i < 3; i++) {
            long[] then = vans.clone();
            then[i] += load;
            best = Math.min(best, loads(shop + 1, then));
        }
        return best;
    }

    private long cost(int good) {
        if (number(good) == 0) {
            return 0;
        }
        long[] baking = new long[4];
        long[] weighing = new long[4];
        for (int i = 0; i < 4; i++) {
            baking[i] = baking(i);
            weighing[i] = number(i) * goods[i][2];
        }
        return goods[good][3] * number(good) + split(fleet[3], baking)[good] + split(fleet[4], weighing)[good];
    }

    private static long[] split(long coin, long[] by) {
        long whole = Arrays.stream(by).sum();
        long[] parts = new long[4];
        long rest = coin;
        for (int i = 0; i < 4; i++) {
            parts[i] = coin * by[i] / whole;
            rest -= parts[i];
        }
        while (rest > 0) {
            for (int i = 0; i < 4; i++) {
                if (by[i] > 0 && rest > 0) {
                    parts[i]++;
                    rest--;
                }
            }
        }
        return parts;
    }

    private long worker(int hours, int pence) {
        number(hours, 0, 99);
        number(pence, 0, 999);
        if (workers.size() == 20) {
            throw new UnsupportedOperationException();
        }
        workers.add(new int[] {hours, pence, -1, 0});
        return workers.size() - 1;
    }

    private long alter(int worker, int hours, int hand) {
        place(worker, workers.size());
        number(hours, 0, 99);
        number(hand, 0, 9);
        if (paid) {
            throw new IllegalStateException();
        }
        int[] w = workers.get(worker);
        if (w[0] == hours) {
            return 0;
        }
        w[0] = hours;
        w[2] = hand;
        w[3]++;
        return 1;
    }

    private long pay(int worker, int what) {
        int[] w = workers.get(worker);
        int halves = 2 * Math.min(w[0], 40) + 3 * Math.max(0, w[0] - 40);
        int[] all = {halves * w[1] / 2, w[0], w[2], w[3]};
        return all[what];
    }

    private long wages() {
        boolean any = false;
        for (int job = 0; job < jobs.size(); job++) {
            if (jobs.get(job).wage) {
                any = true;
                if (!beyond(job)) {
                    return -1;
                }
            }
        }
        if (!any || paid) {
            return -1;
        }
        paid = true;
        long all = 0;
        for (int i = 0; i < workers.size(); i++) {
            all += pay(i, 0);
        }
        return all;
    }

    private List<Integer> planned() {
        List<Integer> those = new ArrayList<>();
        for (int job = 0; job < jobs.size() && those.size() < 7; job++) {
            if (jobs.get(job).state == 0) {
                those.add(job);
            }
        }
        return those;
    }

    /** The worth, and what each of those jobs has. */
    private List<Integer> plan(int machine, int clerks) {
        List<Integer> those = planned();
        int ways = 1 << 2 * those.size();
        int[] best = {-1, 0, 0};
        List<Integer> answer = null;
        for (int way = 0; way < ways; way++) {
            int worth = 0;
            int m = 0;
            int c = 0;
            Set<Integer> dropped = new HashSet<>();
            Set<Integer> on = new HashSet<>();
            boolean may = true;
            List<Integer> had = new ArrayList<>();
            for (int i = 0; i < those.size(); i++) {
                int how = way >> 2 * (those.size() - 1 - i) & 3;
                Work w = jobs.get(those.get(i));
                had.add(how);
                may &= !(how == 1 && w.smin == 0 || how == 2 && w.hand == 0);
                worth += how == 3 ? 0 : how == 1 ? w.sworth : w.worth;
                m += how == 0 ? w.minutes : how == 1 ? w.smin : 0;
                c += how == 2 ? w.hand : 0;
                if (how == 3) {
                    dropped.add(those.get(i));
                } else {
                    on.addAll(leans(those.get(i)));
                }
            }
            on.retainAll(dropped);
            if (!may || !on.isEmpty() || m > machine || c > clerks) {
                continue;
            }
            if (worth > best[0] || worth == best[0] && (m < best[1] || m == best[1] && c < best[2])) {
                best = new int[] {worth, m, c};
                answer = had;
            }
        }
        answer.add(0, best[0]);
        return answer;
    }

    private long which(int machine, int clerks, int job) {
        place(job, jobs.size());
        number(machine, 0, 1000);
        number(clerks, 0, 1000);
        int i = planned().indexOf(job);
        return i < 0 ? -1 : plan(machine, clerks).get(i + 1);
    }

    private long alone() {
        long all = 0;
        for (Work w : jobs) {
            if (w.hand == 0) {
                return -1;
            }
            all += w.hand;
        }
        return all;
    }

    private long two() {
        if (order() == null) {
            return -1;
        }
        int[] free = new int[2];
        int[] done = new int[12];
        for (int job : order()) {
            int m = free[1] < free[0] ? 1 : 0;
            int begin = free[m];
            for (int on : leans(job)) {
                begin = Math.max(begin, done[on]);
            }
            done[job] = begin + jobs.get(job).minutes;
            free[m] = done[job];
        }
        return Math.max(free[0], free[1]);
    }

    private long tear(int i, int mask) {
        int first = Math.max(0, rows.size() - 8);
        if (i < 0 || first + i >= rows.size() || i >= 8) {
            throw new NoSuchElementException();
        }
        told.set(first + i, told.get(first + i) ^ mask);
        return told.get(first + i);
    }

    private long check() {
        int first = Math.max(0, rows.size() - 8);
        for (int i = first; i < rows.size(); i++) {
            if (told.get(i) != rows.get(i).written()) {
                return i - first;
            }
        }
        return -1;
    }

    private long count(int what) {
        if (what < 0 || what > 12) {
            return -1;
        }
        long[] all = {minute, jobs.size(), rows.size(), out, running, 0, rings, 0, 0, workers.size(), paid ? 1 : 0, wants.size(), caught};
        for (Work w : jobs) {
            all[5] += w.state == 0 ? 1 : 0;
            all[7] += w.asked;
            all[8] += w.failed;
        }
        return all[what];
    }
}
