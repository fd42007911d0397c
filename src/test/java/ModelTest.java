import java.util.ArrayDeque;
import java.util.ArrayList;
import java.util.Deque;
import java.util.List;
import java.util.Random;
import java.util.regex.Matcher;
import java.util.regex.Pattern;

/**
 * Long runs of calls, good and wrong ones, on an object and on a second, slow model that is written straight from the
 * document with the whole Java library. The seeds are fixed, so every run is the same.
 */
public final class ModelTest {

    private static final int RUNS = 600;

    /** What an object is used for: all its calls, the digests, too. */
    private static final int CALLS = 512;

    public static void main(String[] args) {
        for (int seed = 1; seed <= RUNS; seed++) {
            run(seed);
        }
        Check.end("ModelTest");
    }

    /** Half of the runs look at all behind each call; the others look seldom, and so come further. */
    private static void run(int seed) {
        Random random = new Random(seed);
        HoseTests x = new HoseTests();
        Model model = new Model();
        int callsToALook = seed % 2 == 0 ? 1 : 16;
        int sinceALook = 0;
        for (int n = 1; n <= CALLS; n++) {
            if (sinceALook == callsToALook || n == CALLS) {
                Check.same("seed " + seed + ", call " + n + ", digest", x.digest(), model.digest());
                sinceALook = 0;
                continue;
            }
            int[] call = randomCall(random, model);
            long got = answer(() -> onObject(x, call));
            long due = answer(() -> onModel(model, call));
            Check.same("seed " + seed + ", call " + n + " " + List.of(call[0], call[1], call[2], call[3]), got, due);
            if (got != due) {
                return;
            }
            sinceALook++;
        }
    }

    // ---- calls

    private static final long[] THROWN = {Long.MIN_VALUE, Long.MIN_VALUE + 1, Long.MIN_VALUE + 2, Long.MIN_VALUE + 3};

    private static long answer(Check.Call call) {
        try {
            return call.answer();
        } catch (RuntimeException e) {
            if (e.getClass() == IllegalArgumentException.class) {
                return THROWN[0];
            }
            if (e.getClass() == IllegalStateException.class) {
                return THROWN[1];
            }
            return e.getClass() == IndexOutOfBoundsException.class ? THROWN[2] : THROWN[3];
        }
    }

    private static int[] randomCall(Random random, Model model) {
        int method = random.nextInt(40);
        int hose = random.nextInt(40) == 0 ? far(random) : random.nextInt(Math.max(1, model.hoses.size() + 1));
        switch (method) {
            case 0: case 1: case 2:
                return call(0, near(random, 0, 2), near(random, 5, random.nextBoolean() ? 50 : 12), near(random, 0, 2));
            case 3: return call(1, hose, 0, 0);
            case 4: case 5: case 6: case 7: return call(2, hose, near(random, 0, 3), 0);
            case 8: case 9: return call(3, hose, near(random, 1, random.nextBoolean() ? 99 : 9), 0);
            case 10: case 11: case 12: case 13: return call(4, hose, near(random, 4, 12), 0);
            case 14: return call(4, hose, near(random, 4, 24), 0);
            case 15: return call(5, near(random, 0, 2), near(random, 0, random.nextBoolean() ? 200 : 60), 0);
            case 16: return call(6, 0, near(random, 4, 24), 0);
            case 17: return call(6, 1, near(random, 0, 5), 0);
            case 18: return call(6, random.nextBoolean() ? 2 : near(random, 0, 2), near(random, 0, 200), 0);
            case 19: return call(7, near(random, 1, 30), 0, 0);
            case 20: case 21: return call(7, near(random, 1, 100), 0, 0);
            case 22: case 23: case 24: case 25: case 26: case 27: case 28: case 29:
                return call(8, random.nextInt(30) == 0 ? near(random, 33, 126) : likelyCode(random, model), 0, 0);
            case 30: return call(random.nextInt(4) == 0 ? 9 : 10, 0, 0, 0);
            case 31: case 32: return call(11, 0, 0, 0);
            case 33: return call(random.nextInt(3) == 0 ? 12 : 10, 0, 0, 0);
            case 34: return call(13, hose, near(random, 0, 9), 0);
            case 35: return call(14, near(random, 0, 2), near(random, 0, 6), 0);
            case 36: return call(15, near(random, 0, 10), 0, 0);
            case 37: return call(16, near(random, 0, 2), 0, 0);
            case 38: return call(17, hose, near(random, 4, 24), 0);
            default: return call(18 + random.nextInt(4), random.nextBoolean() ? hose : near(random, 0, 2), 0, 0);
        }
    }

    private static int[] call(int method, int a, int b, int c) {
        return new int[] {method, a, b, c};
    }

    private static int near(Random random, int least, int greatest) {
        int way = random.nextInt(60);
        if (way == 0) {
            return far(random);
        }
        if (way < 3) {
            return way == 1 ? least - 1 : greatest + 1;
        }
        return least + random.nextInt(greatest - least + 1);
    }

    private static int far(Random random) {
        int[] values = {Integer.MIN_VALUE, -1, 14, 15, 127, 1000, Integer.MAX_VALUE};
        return values[random.nextInt(values.length)];
    }

    /** Mostly a character that goes on well, so that texts become long. */
    private static int likelyCode(Random random, Model model) {
        String all = "nrl0123456789abc,";
        for (int i = 0; i < 40; i++) {
            char c = all.charAt(random.nextInt(all.length()));
            if (Model.begins(model.buffer.toString() + c)) {
                return c;
            }
        }
        return all.charAt(random.nextInt(all.length()));
    }

    private static long onObject(HoseTests x, int[] c) {
        switch (c[0]) {
            case 0: return x.buy(c[1], c[2], c[3]);
            case 1: return x.renew(c[1]);
            case 2: return x.put(c[1], c[2]);
            case 3: return x.lend(c[1], c[2]);
            case 4: return x.test(c[1], c[2]);
            case 5: return x.want(c[1], c[2]);
            case 6: return x.set(c[1], c[2]);
            case 7: return x.pass(c[1]);
            case 8: return x.append(c[1]);
            case 9: return x.clearBuffer();
            case 10: return x.firstError();
            case 11: return x.buyAll();
            case 12: return x.undo();
            case 13: return x.hose(c[1], c[2]);
            case 14: return x.truck(c[1], c[2]);
            case 15: return x.count(c[1]);
            case 16: return x.setting(c[1]);
            case 17: return x.ifTested(c[1], c[2]);
            case 18: return x.safe(c[1]);
            case 19: return x.helps(c[1]);
            case 20: return x.nextLapse();
            default: return Double.doubleToLongBits(x.readyShare());
        }
    }

    private static long onModel(Model m, int[] c) {
        switch (c[0]) {
            case 0: return m.buy(c[1], c[2], c[3]);
            case 1: return m.renew(c[1]);
            case 2: return m.put(c[1], c[2]);
            case 3: return m.lend(c[1], c[2]);
            case 4: return m.test(c[1], c[2]);
            case 5: return m.want(c[1], c[2]);
            case 6: return m.set(c[1], c[2]);
            case 7: return m.pass(c[1]);
            case 8: return m.append(c[1]);
            case 9: return m.clearBuffer();
            case 10: return m.firstError();
            case 11: return m.buyAll();
            case 12: return m.undo();
            case 13: return m.lookAtHose(c[1], c[2]);
            case 14: return m.lookAtTruck(c[1], c[2]);
            case 15: return m.count(c[1]);
            case 16: return m.setting(c[1]);
            case 17: return m.ifTested(c[1], c[2]);
            case 18: return m.safe(c[1]);
            case 19: return m.helps(c[1]);
            case 20: return m.nextLapse();
            default: return Double.doubleToLongBits(m.readyShare());
        }
    }

    // ---- the model

    private static final class Hose {
        int kind;
        int length;
        int coupling;
        int made;
        int wear = 0;
        Integer inForceTo = null;
        String where = "store";
        int back = -1;

        Hose(int kind, int length, int coupling, int made) {
            this.kind = kind;
            this.length = length;
            this.coupling = coupling;
            this.made = made;
        }

        Hose copy() {
            Hose h = new Hose(kind, length, coupling, made);
            h.wear = wear;
            h.inForceTo = inForceTo;
            h.where = where;
            h.back = back;
            return h;
        }

        int price() {
            return kind == 0 ? length * 2 : kind == 1 ? length * 3 : length * 4 + 10;
        }

        int strength(int day) {
            int age = (day - made) / 100;
            int s = kind == 0 ? 16 - wear / 10 - age : kind == 1 ? 20 - wear / 8 - age / 2 : 24 - wear / 5;
            return s < 0 ? 0 : s;
        }

        int reason(int day) {
            if (where.equals("gone")) {
                return 1;
            }
            if (where.equals("lent")) {
                return 2;
            }
            int[] lives = {900, 1500, 1200};
            if (day - made > lives[kind]) {
                return 3;
            }
            return inForceTo != null && day <= inForceTo ? 0 : 4;
        }

        int placeNumber() {
            return List.of("gone", "truck0", "truck1", "truck2", "store", "lent").indexOf(where) - 1;
        }

        /** Really tests it. */
        int raise(int pressure, int day) {
            int held = 0;
            int step = 0;
            while (step != pressure) {
                step = step + 4 > pressure ? pressure : step + 4;
                if (strength(day) < step) {
                    where = "gone";
                    return 100 + held;
                }
                held++;
                if (wear < 99) {
                    wear++;
                }
            }
            return held;
        }
    }

    private static final class Model {
        private static final String PART = "[nrl]([5-9]|[1-4][0-9]|50)[abc]";
        private static final Pattern TEXT = Pattern.compile(PART + "(," + PART + ")*");

        List<Hose> hoses = new ArrayList<>();
        int[] wants = {60, 60, 60};
        int[] settings = {12, 1, 50};
        int day = 0;
        int money = 200;
        int tests = 0;
        int bursts = 0;
        int paid = 0;
        StringBuilder buffer = new StringBuilder();
        final Deque<Model> saved = new ArrayDeque<>();

        void save() {
            Model copy = new Model();
            copy.take(this);
            saved.addLast(copy);
            if (saved.size() > 6) {
                saved.removeFirst();
            }
        }

        void take(Model other) {
            hoses = new ArrayList<>();
            for (Hose h : other.hoses) {
                hoses.add(h.copy());
            }
            wants = other.wants.clone();
            settings = other.settings.clone();
            day = other.day;
            money = other.money;
            tests = other.tests;
            bursts = other.bursts;
            paid = other.paid;
        }

        static void index(boolean holds) {
            if (!holds) {
                throw new IndexOutOfBoundsException();
            }
        }

        static void argument(boolean holds) {
            if (!holds) {
                throw new IllegalArgumentException();
            }
        }

        static void state(boolean holds) {
            if (!holds) {
                throw new IllegalStateException();
            }
        }

        Hose at(int h) {
            index(h >= 0 && h < hoses.size());
            return hoses.get(h);
        }

        static boolean atHand(Hose h) {
            return !h.where.equals("gone") && !h.where.equals("lent");
        }

        boolean affords(Hose h) {
            return hoses.size() < 14 && money >= h.price();
        }

        int add(Hose h) {
            hoses.add(h);
            money -= h.price();
            paid += h.price();
            return hoses.size() - 1;
        }

        int buy(int kind, int length, int coupling) {
            argument(kind >= 0 && kind < 3 && length >= 5 && length <= 50 && coupling >= 0 && coupling < 3);
            Hose h = new Hose(kind, length, coupling, day);
            state(affords(h));
            save();
            return add(h);
        }

        int renew(int hose) {
            Hose old = at(hose);
            state(atHand(old));
            Hose h = new Hose(old.kind, old.length, old.coupling, day);
            state(affords(h));
            save();
            h.where = old.where;
            old.where = "gone";
            return add(h);
        }

        int put(int hose, int place) {
            Hose h = at(hose);
            argument(place >= 0 && place <= 3);
            state(atHand(h));
            save();
            int before = h.placeNumber();
            h.where = place == 3 ? "store" : "truck" + place;
            return before;
        }

        int lend(int hose, int days) {
            Hose h = at(hose);
            argument(days >= 1 && days <= 99);
            state(h.reason(day) == 0);
            save();
            h.where = "lent";
            h.back = day + days;
            return h.back;
        }

        int test(int hose, int pressure) {
            Hose h = at(hose);
            argument(pressure >= 4 && pressure <= 24);
            state(atHand(h));
            save();
            tests++;
            int result = h.raise(pressure, day);
            if (result >= 100) {
                bursts++;
            } else if (pressure >= settings[0]) {
                h.inForceTo = day + new int[] {100, 150, 200}[h.kind];
            }
            return result;
        }

        int want(int truck, int length) {
            index(truck >= 0 && truck < 3);
            argument(length >= 0 && length <= 200);
            save();
            int before = wants[truck];
            wants[truck] = length;
            return before;
        }

        int set(int setting, int value) {
            index(setting >= 0 && setting < 3);
            argument(value >= new int[] {4, 0, 0}[setting] && value <= new int[] {24, 5, 200}[setting]);
            save();
            int before = settings[setting];
            settings[setting] = value;
            return before;
        }

        int pass(int days) {
            argument(days >= 1 && days <= 100);
            save();
            for (int i = 0; i < days; i++) {
                day++;
                for (Hose h : hoses) {
                    if (h.where.equals("lent") && h.back == day) {
                        h.where = "store";
                        h.back = -1;
                    }
                }
                for (Hose h : hoses) {
                    if (day % 10 == 0 && h.where.startsWith("truck") && h.reason(day) == 0 && h.wear < 99) {
                        h.wear++;
                    }
                }
                if (day % 30 == 0) {
                    money = money + settings[2] > 9999 ? 9999 : money + settings[2];
                }
            }
            return day;
        }

        int append(int code) {
            argument(code >= 33 && code <= 126);
            state(buffer.length() < 60);
            return buffer.append((char) code).length();
        }

        int clearBuffer() {
            int length = buffer.length();
            buffer.setLength(0);
            return length;
        }

        static boolean begins(String text) {
            Matcher m = TEXT.matcher(text);
            return m.matches() || m.hitEnd();
        }

        int firstError() {
            for (int i = 0; i < buffer.length(); i++) {
                if (!begins(buffer.substring(0, i + 1))) {
                    return i;
                }
            }
            return buffer.length();
        }

        int buyAll() {
            argument(TEXT.matcher(buffer).matches());
            save();
            int bought = 0;
            for (String part : buffer.toString().split(",")) {
                int end = part.length() - 1;
                Hose h = new Hose("nrl".indexOf(part.charAt(0)), Integer.parseInt(part.substring(1, end)),
                        "abc".indexOf(part.charAt(end)), day);
                if (!affords(h)) {
                    break;
                }
                add(h);
                bought++;
            }
            buffer.setLength(0);
            return bought;
        }

        int undo() {
            state(!saved.isEmpty());
            take(saved.removeLast());
            return saved.size();
        }

        int lookAtHose(int hose, int what) {
            Hose h = at(hose);
            argument(what >= 0 && what <= 9);
            return new int[] {h.kind, h.length, h.coupling, h.made, h.wear, h.strength(day),
                h.inForceTo == null ? -1 : h.inForceTo, h.placeNumber(), h.back, h.reason(day)}[what];
        }

        List<Integer> line(List<Integer> on) {
            List<Integer> line = new ArrayList<>();
            int left = settings[1];
            for (int i = 0; i < hoses.size(); i++) {
                if (!on.contains(i) || hoses.get(i).reason(day) != 0) {
                    continue;
                }
                boolean fits = line.isEmpty()
                        || hoses.get(line.get(line.size() - 1)).coupling == hoses.get(i).coupling;
                if (!fits && left == 0) {
                    continue;
                }
                left -= fits ? 0 : 1;
                line.add(i);
            }
            return line;
        }

        List<Integer> onTruck(int truck) {
            List<Integer> on = new ArrayList<>();
            for (int i = 0; i < hoses.size(); i++) {
                if (hoses.get(i).where.equals("truck" + truck)) {
                    on.add(i);
                }
            }
            return on;
        }

        int metres(List<Integer> line) {
            return line.stream().mapToInt(i -> hoses.get(i).length).sum();
        }

        int lookAtTruck(int truck, int what) {
            index(truck >= 0 && truck < 3);
            argument(what >= 0 && what <= 6);
            List<Integer> on = onTruck(truck);
            List<Integer> line = line(on);
            int adapters = 0;
            int mask = 0;
            for (int i = 0; i < line.size(); i++) {
                mask += 1 << line.get(i);
                if (i > 0 && hoses.get(line.get(i)).coupling != hoses.get(line.get(i - 1)).coupling) {
                    adapters++;
                }
            }
            int readyOn = (int) on.stream().filter(i -> hoses.get(i).reason(day) == 0).count();
            return new int[] {wants[truck], metres(line), on.size(), readyOn, adapters, mask,
                metres(line) >= wants[truck] ? 1 : 0}[what];
        }

        int withReason(int reason) {
            return (int) hoses.stream().filter(h -> h.reason(day) == reason).count();
        }

        int count(int what) {
            argument(what >= 0 && what <= 10);
            int whole = lookAtTruck(0, 6) + lookAtTruck(1, 6) + lookAtTruck(2, 6);
            return new int[] {day, money, hoses.size(), withReason(1), withReason(0), withReason(2), whole, tests,
                bursts, paid, saved.size()}[what];
        }

        int setting(int setting) {
            index(setting >= 0 && setting < 3);
            return settings[setting];
        }

        int ifTested(int hose, int pressure) {
            Hose h = at(hose);
            argument(pressure >= 4 && pressure <= 24);
            return h.where.equals("gone") ? -1 : h.copy().raise(pressure, day);
        }

        int safe(int hose) {
            Hose h = at(hose);
            int best = -1;
            for (int p = 4; p <= 24 && !h.where.equals("gone"); p++) {
                best = h.copy().raise(p, day) < 100 ? p : best;
            }
            return best;
        }

        /** Waits and sees. */
        int nextLapse() {
            for (int days = 0; days <= 300; days++) {
                for (Hose h : hoses) {
                    if (h.reason(day) == 0 && h.reason(day + days) != 0) {
                        return days;
                    }
                }
            }
            return -1;
        }

        int helps(int truck) {
            index(truck >= 0 && truck < 3);
            if (lookAtTruck(truck, 6) == 1) {
                return -1;
            }
            int best = -1;
            for (int i = hoses.size() - 1; i >= 0; i--) {
                Hose h = hoses.get(i);
                List<Integer> on = onTruck(truck);
                on.add(i);
                boolean whole = h.where.equals("store") && h.reason(day) == 0 && metres(line(on)) >= wants[truck];
                if (whole && (best < 0 || h.price() <= hoses.get(best).price())) {
                    best = i;
                }
            }
            return best;
        }

        double readyShare() {
            int present = hoses.size() - withReason(1);
            return present == 0 ? 1.0 : (double) withReason(0) / present;
        }

        long digest() {
            List<Long> values = new ArrayList<>();
            for (int what = 0; what <= 10; what++) {
                values.add((long) count(what));
            }
            for (int s : settings) {
                values.add((long) s);
            }
            for (int h = 0; h < hoses.size(); h++) {
                for (int what = 0; what <= 9; what++) {
                    values.add((long) lookAtHose(h, what));
                }
                values.add((long) ifTested(h, 12));
                values.add((long) safe(h));
            }
            for (int t = 0; t < 3; t++) {
                for (int what = 0; what <= 6; what++) {
                    values.add((long) lookAtTruck(t, what));
                }
                values.add((long) helps(t));
            }
            values.add((long) nextLapse());
            values.add(Double.doubleToLongBits(readyShare()));
            values.add((long) buffer.length());
            buffer.chars().forEach(c -> values.add((long) c));
            long hash = 3271;
            for (long v : values) {
                hash = 31 * hash + v;
            }
            return hash;
        }
    }
}
