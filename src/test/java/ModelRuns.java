import java.util.ArrayList;
import java.util.List;
import java.util.TreeMap;
import java.util.regex.Pattern;

/**
 * Long runs of calls, made by a counted generator, on the class and on a slow model of the
 * document that shares nothing with it: whole copies for undo, a search for each number, a
 * pattern for the script text.
 */
public final class ModelRuns {
    private static final int RUNS = 2500;
    private static final int CALLS = 500;

    private static final class Packet implements Cloneable {
        int number;
        int form;
        int reference = -1;
        int size;
        int[] header;
        int[] strides;
        boolean acknowledged;
        int[] differences;
        int address = -1;
        int flags = -1;

        Packet twin() {
            try {
                return (Packet) clone();
            } catch (CloneNotSupportedException e) {
                throw new AssertionError(e);
            }
        }
    }

    private static final class World {
        int[] header = {0, 0, 0, 0};
        int[] strides = {1, 160};
        int policy;
        int confidence;
        boolean repair;
        List<Packet> packets = new ArrayList<>();
        List<Integer> forward = new ArrayList<>();
        List<Integer> back = new ArrayList<>();
        int depth = 3;
        int interval = 1;
        int patience = 2;
        int highest = -1;
        int inRow;
        TreeMap<Integer, int[]> records = new TreeMap<>();
        int[] outcomes = new int[4];
        int requests;
        int lateness;

        World twin() {
            World w = new World();
            w.header = header.clone();
            w.strides = strides.clone();
            w.policy = policy;
            w.confidence = confidence;
            w.repair = repair;
            for (Packet p : packets) {
                w.packets.add(p.twin());
            }
            w.forward = new ArrayList<>(forward);
            w.back = new ArrayList<>(back);
            w.depth = depth;
            w.interval = interval;
            w.patience = patience;
            w.highest = highest;
            w.inRow = inRow;
            w.records = new TreeMap<>(records);
            w.outcomes = outcomes.clone();
            w.requests = requests;
            w.lateness = lateness;
            return w;
        }

        static int modulo(int value) {
            return ((value % 65536) + 65536) % 65536;
        }

        static int difference(int x, int y) {
            int d = modulo(x - y);
            return d > 32767 ? d - 65536 : d;
        }

        int step() {
            header[1] = modulo(header[1] + strides[0]);
            header[2] = modulo(header[2] + strides[1]);
            return header[1];
        }

        int reference(int c) {
            int n = packets.size();
            int best = -1;
            for (Packet m : packets) {
                if (m.acknowledged || c > 0 && n - m.number >= c) {
                    best = m.number;
                }
            }
            return best >= 0 && n - best <= 15 ? best : -1;
        }

        static int[] base(int form, int[] record, int distance) {
            int ahead = form == 2 ? distance : 0;
            return new int[] {record[0], modulo(record[1] + ahead * record[4]),
                modulo(record[2] + ahead * record[5]), record[3], record[4], record[5]};
        }

        static int[] recordOf(Packet p) {
            return new int[] {p.header[0], p.header[1], p.header[2], p.header[3], p.strides[0], p.strides[1]};
        }

        /** The packet that would be sent now. */
        Packet next(int policy, int c) {
            Packet p = new Packet();
            p.number = packets.size();
            p.header = header.clone();
            int reference = reference(c);
            if (policy == 0 || reference < 0 || repair) {
                p.strides = strides.clone();
                p.size = 12;
                return p;
            }
            p.form = policy;
            p.reference = reference;
            int[] base = base(policy, recordOf(packets.get(reference)), p.number - reference);
            p.strides = new int[] {base[4], base[5]};
            p.differences = new int[] {difference(header[1], base[1]), difference(header[2], base[2])};
            p.size = 3;
            for (int d : p.differences) {
                p.size += d == 0 ? 0 : d >= -128 && d <= 127 ? 1 : 2;
            }
            if (header[0] != base[0]) {
                p.address = header[0];
                p.size++;
            }
            if (header[3] != base[3]) {
                p.flags = header[3];
                p.size++;
            }
            return p;
        }

        boolean room(int packetsMore) {
            return packets.size() + packetsMore <= 500 && forward.size() + packetsMore <= 20;
        }

        int send() {
            Packet p = next(policy, confidence);
            repair = false;
            packets.add(p);
            forward.add(p.number);
            return p.number;
        }

        int numberFor(int told) {
            for (int x = highest - depth + 1; x <= highest - depth + 64; x++) {
                if (((x - told) % 64) == 0) {
                    return x;
                }
            }
            throw new AssertionError();
        }

        void message(int m) {
            if (back.size() < 20) {
                back.add(m);
            }
        }

        int deliver(int index) {
            Packet p = packets.get(forward.remove(index));
            if (highest - p.number > lateness) {
                lateness = highest - p.number;
            }
            int x = p.form == 0 ? p.number : numberFor(p.number % 64);
            if (records.containsKey(x)) {
                outcomes[3]++;
                return 3;
            }
            int[] got;
            if (p.form == 0) {
                got = recordOf(p);
            } else {
                int[] known = records.get(x - (p.number - p.reference));
                if (known == null) {
                    outcomes[2]++;
                    inRow++;
                    if (inRow >= patience) {
                        inRow = 0;
                        requests++;
                        message(-1);
                    }
                    return 2;
                }
                got = base(p.form, known, p.number - p.reference);
                got[1] = modulo(got[1] + p.differences[0]);
                got[2] = modulo(got[2] + p.differences[1]);
                got[0] = p.address < 0 ? got[0] : p.address;
                got[3] = p.flags < 0 ? got[3] : p.flags;
            }
            records.put(x, got);
            highest = Math.max(highest, x);
            records.headMap(highest - 64, true).clear();
            boolean right = x == p.number;
            for (int i = 0; i < 4; i++) {
                right &= got[i] == p.header[i];
            }
            outcomes[right ? 0 : 1]++;
            if ((outcomes[0] + outcomes[1]) % interval == 0) {
                message(x);
            }
            inRow = 0;
            return right ? 0 : 1;
        }

        int deliverBack(int index) {
            int m = back.remove(index);
            if (m == -1) {
                repair = true;
            } else if (m < packets.size()) {
                packets.get(m).acknowledged = true;
            }
            return m;
        }

        int sent(int packet, int what) {
            Packet p = packets.get(packet);
            int[] last = {p.size, p.form, p.reference, p.acknowledged ? 1 : 0};
            return what < 4 ? p.header[what] : last[what - 4];
        }

        int record(int number, int what) {
            return records.containsKey(number) ? records.get(number)[what] : -1;
        }

        int bytes() {
            int sum = 0;
            for (Packet p : packets) {
                sum += p.size;
            }
            return sum;
        }

        int count(int what) {
            int full = 0;
            for (Packet p : packets) {
                full += p.form == 0 ? 1 : 0;
            }
            int[] all = {packets.size(), outcomes[0] + outcomes[1], outcomes[0], outcomes[1], outcomes[2],
                outcomes[3], requests, full};
            return all[what];
        }
    }

    private static final class Model {
        World now = new World();
        final List<World> saved = new ArrayList<>();
        String text = "";

        private static final Pattern WHOLE = Pattern.compile("([ns];|[dlcax][0-9]{1,2};)*");
        private static final Pattern BEGUN =
                Pattern.compile("([ns];|[dlcax][0-9]{1,2};)*([ns]|[dlcax][0-9]{0,2})?");

        void save(World before) {
            saved.add(before);
            if (saved.size() > 4) {
                saved.remove(0);
            }
        }

        static void bounds(boolean fine) {
            if (!fine) {
                throw new IndexOutOfBoundsException();
            }
        }

        static void argument(boolean fine) {
            if (!fine) {
                throw new IllegalArgumentException();
            }
        }

        static void state(boolean fine) {
            if (!fine) {
                throw new IllegalStateException();
            }
        }

        static boolean in(int v, int least, int most) {
            return v >= least && v <= most;
        }

        /** One order or one call on links; it saves nothing itself. */
        int act(char order, int i) {
            World w = now;
            switch (order) {
                case 'n':
                    return w.step();
                case 's':
                    state(w.room(1));
                    return w.send();
                case 'd':
                    bounds(in(i, 0, w.forward.size() - 1));
                    return w.deliver(i);
                case 'l':
                    bounds(in(i, 0, w.forward.size() - 1));
                    return w.forward.remove(i);
                case 'c':
                    bounds(in(i, 0, w.forward.size() - 1));
                    state(w.forward.size() < 20);
                    w.forward.add(w.forward.get(i));
                    return w.forward.size();
                case 'a':
                    bounds(in(i, 0, w.back.size() - 1));
                    return w.deliverBack(i);
                default:
                    bounds(in(i, 0, w.back.size() - 1));
                    return w.back.remove(i);
            }
        }

        int actAndSave(char order, int i) {
            World before = now.twin();
            int answer = act(order, i);
            save(before);
            return answer;
        }

        int carryOut() {
            for (int end = 1; end <= text.length(); end++) {
                if (!BEGUN.matcher(text.substring(0, end)).matches()) {
                    return -10 - (end - 1);
                }
            }
            if (!WHOLE.matcher(text).matches()) {
                return -10 - text.length();
            }
            World before = now.twin();
            String[] orders = text.isEmpty() ? new String[0] : text.split(";");
            for (int k = 0; k < orders.length; k++) {
                String digits = orders[k].substring(1);
                try {
                    act(orders[k].charAt(0), digits.isEmpty() ? 0 : Integer.parseInt(digits));
                } catch (IndexOutOfBoundsException | IllegalStateException e) {
                    now = before;
                    return -1000 - k;
                }
            }
            save(before);
            return orders.length;
        }

        long digest() {
            World w = now;
            List<Integer> v = new ArrayList<>();
            v.add(text.length());
            for (int field : w.header) {
                v.add(field);
            }
            v.add(w.strides[0]);
            v.add(w.strides[1]);
            v.add(w.policy);
            v.add(w.confidence);
            v.add(w.repair ? 1 : 0);
            for (Packet p : w.packets) {
                for (int what = 0; what < 8; what++) {
                    v.add(w.sent(p.number, what));
                }
            }
            v.add(w.forward.size());
            v.addAll(w.forward);
            v.add(w.back.size());
            v.addAll(w.back);
            v.addAll(List.of(w.depth, w.interval, w.patience, w.highest, w.inRow, w.records.size()));
            for (int number = Math.max(0, w.highest - 63); number <= w.highest; number++) {
                for (int what = 0; what < 6; what++) {
                    v.add(w.record(number, what));
                }
            }
            for (int what = 0; what < 8; what++) {
                v.add(w.count(what));
            }
            v.add(6 * w.packets.size() - w.bytes());
            v.add(w.lateness);
            v.add(saved.size());
            long h = 3061;
            for (int value : v) {
                h = 31 * h + value;
            }
            return h;
        }

        /** The setters. */
        int set(int kind, int a, int b, int c) {
            World before = now.twin();
            World w = now;
            int[] most = {255, 65535, 65535, 15};
            int previous;
            switch (kind) {
                case 0:
                    bounds(in(a, 0, 3));
                    argument(in(b, 0, most[a]));
                    previous = w.header[a];
                    w.header[a] = b;
                    break;
                case 1:
                    argument(in(a, 0, 255) && in(b, 0, 4095));
                    previous = w.strides[1];
                    w.strides = new int[] {a, b};
                    break;
                case 2:
                    argument(in(a, 0, 2) && in(b, 0, 15));
                    previous = w.policy;
                    w.policy = a;
                    w.confidence = b;
                    break;
                default:
                    argument(in(a, 0, 15) && in(b, 1, 16) && in(c, 1, 8));
                    previous = w.depth;
                    w.depth = a;
                    w.interval = b;
                    w.patience = c;
                    break;
            }
            save(before);
            return previous;
        }

        int stream(int times) {
            argument(in(times, 1, 20));
            state(now.room(times));
            save(now.twin());
            for (int i = 0; i < times; i++) {
                now.step();
                now.send();
            }
            return now.forward.size();
        }

        int deliverAll() {
            save(now.twin());
            int decoded = 0;
            while (!now.forward.isEmpty()) {
                decoded += now.deliver(0) < 2 ? 1 : 0;
            }
            return decoded;
        }

        int undo() {
            state(!saved.isEmpty());
            now = saved.remove(saved.size() - 1);
            return saved.size();
        }

        int append(int value) {
            argument(in(value, 0, 127));
            state(text.length() < 100);
            text += (char) value;
            return text.length();
        }

        int clearText() {
            int length = text.length();
            text = "";
            return length;
        }

        /** The questions: kind by kind. */
        int ask(int kind, int a, int b) {
            World w = now;
            switch (kind) {
                case 0:
                    bounds(in(a, 0, 3));
                    return w.header[a];
                case 1:
                    argument(in(a, 0, 2) && in(b, 0, 15));
                    return w.next(a, b).size;
                case 2:
                    return w.reference(w.confidence);
                case 3:
                    bounds(in(a, 0, w.packets.size() - 1));
                    argument(in(b, 0, 7));
                    return w.sent(a, b);
                case 4:
                    List<Integer> link = b == 1 ? w.back : w.forward;
                    bounds(in(a, 0, link.size() - 1));
                    return link.get(a);
                case 5:
                    return b == 1 ? w.back.size() : w.forward.size();
                case 6:
                    argument(in(a, 0, 999) && in(b, 0, 5));
                    return w.record(a, b);
                case 7:
                    argument(in(a, 0, 63));
                    return w.numberFor(a);
                case 8:
                    argument(in(a, 0, 7));
                    return w.count(a);
                case 9:
                    return 6 * w.packets.size() - w.bytes();
                case 10:
                    return w.lateness;
                case 11:
                    return w.highest;
                default:
                    return w.records.size();
            }
        }
    }

    private static int ask(HeaderSqueezer x, int kind, int a, int b) {
        switch (kind) {
            case 0:
                return x.field(a);
            case 1:
                return x.sizeWith(a, b);
            case 2:
                return x.reference();
            case 3:
                return x.sent(a, b);
            case 4:
                return x.waitingAt(b == 1, a);
            case 5:
                return x.waiting(b == 1);
            case 6:
                return x.record(a, b);
            case 7:
                return x.numberFor(a);
            case 8:
                return x.count(a);
            case 9:
                return x.saved();
            case 10:
                return x.lateness();
            case 11:
                return x.highest();
            default:
                return x.records();
        }
    }

    private static int set(HeaderSqueezer x, int kind, int a, int b, int c) {
        switch (kind) {
            case 0:
                return x.setField(a, b);
            case 1:
                return x.setStrides(a, b);
            case 2:
                return x.setPolicy(a, b);
            default:
                return x.setReceiver(a, b, c);
        }
    }

    private static int act(HeaderSqueezer x, char order, int i) {
        switch (order) {
            case 'n':
                return x.advance();
            case 's':
                return x.send();
            case 'd':
                return x.deliver(i);
            case 'l':
                return x.lose(i);
            case 'c':
                return x.copy(i);
            case 'a':
                return x.deliverBack(i);
            default:
                return x.loseBack(i);
        }
    }

    private interface Call {
        long answer();
    }

    private static int wrong = 0;
    private long seed;
    private final int run;
    private final HeaderSqueezer x = new HeaderSqueezer();
    private final Model m = new Model();
    private int calls = 0;

    // How often the runs met what is hard to meet: a generator that misses it tests nothing.
    private static final String[] MET = {"right", "wrong", "unknown", "repetition", "syntax errors",
        "scripts that failed", "scripts carried out", "full return links", "500 packets", "undone",
        "highest above 499", "negative numbers", "refused calls"};
    private static final int[] met = new int[MET.length];

    private ModelRuns(int run) {
        this.run = run;
        this.seed = 7919L * run + 12345;
    }

    private int below(int bound) {
        seed = seed * 6364136223846793005L + 1442695040888963407L;
        return (int) ((seed >>> 33) % bound);
    }

    private static String outcome(Call call) {
        try {
            return String.valueOf(call.answer());
        } catch (RuntimeException e) {
            return e.getClass().getName();
        }
    }

    private void same(String name, Call got, Call want) {
        calls++;
        String g = outcome(got);
        String w = outcome(want);
        if (w.startsWith("java")) {
            met[12]++;
        }
        if (!g.equals(w)) {
            wrong++;
            if (wrong < 20) {
                System.out.println("run " + run + ", call " + calls + ": " + name + " answered " + g
                        + ", due is " + w);
            }
        }
    }

    private void sameDigest() {
        same("digest()", x::digest, m::digest);
    }

    /** Mostly an index of the link, now and then one beside it. */
    private int index(int length) {
        if (below(25) == 0) {
            return below(24) - 2;
        }
        return length == 0 ? below(3) - 1 : below(length);
    }

    private int value(int most) {
        switch (below(12)) {
            case 0:
                return -1 - below(2);
            case 1:
                return most + below(3) - 1;
            case 2:
                return 0;
            case 3:
                return most;
            default:
                return below(most + 1);
        }
    }

    private void act(char order, int i) {
        same(order + "(" + i + ")", () -> act(x, order, i), () -> m.actAndSave(order, i));
    }

    private void set(int kind, int a, int b, int c) {
        same("set " + kind + " (" + a + ", " + b + ", " + c + ")",
                () -> set(x, kind, a, b, c), () -> m.set(kind, a, b, c));
    }

    private void setSomething(int kind) {
        switch (kind) {
            case 0:
                int field = below(20) == 0 ? value(3) : 1 + below(2) + (below(3) == 0 ? 1 : 0);
                int near = field == 1 || field == 2 ? m.now.header[field] + below(400) - 200 : value(15);
                set(0, field, below(4) == 0 ? value(65535) : near, 0);
                break;
            case 1:
                set(1, below(3) == 0 ? value(255) : below(5), below(3) == 0 ? value(4095) : below(300), 0);
                break;
            case 2:
                set(2, below(12) == 0 ? value(2) : 1 + below(2), below(3) == 0 ? value(15) : below(5), 0);
                break;
            default:
                set(3, below(3) == 0 ? value(15) : below(6), below(2) == 0 ? 1 : value(16), value(8));
                break;
        }
    }

    private void askSomething() {
        int kind = below(13);
        int[] most = {3, 2, 0, m.now.packets.size(), 20, 0, 0, 63, 7, 0, 0, 0, 0};
        int a = kind == 6 ? m.now.highest - below(70) : value(most[kind]);
        int b = kind == 4 || kind == 5 ? below(2) : value(kind == 1 ? 15 : kind == 3 ? 7 : 5);
        if (kind == 7 && a >= 0 && a < 64 && m.now.numberFor(a) < 0) {
            met[11]++;
        }
        same("question " + kind + " (" + a + ", " + b + ")",
                () -> ask(x, kind, a, b), () -> m.ask(kind, a, b));
        double mean = m.now.packets.isEmpty() ? 0.0 : (double) m.now.bytes() / m.now.packets.size();
        same("meanSize()", () -> Double.doubleToLongBits(x.meanSize()), () -> Double.doubleToLongBits(mean));
    }

    private void script() {
        same("clearText()", x::clearText, m::clearText);
        int orders = below(9);
        StringBuilder text = new StringBuilder();
        for (int k = 0; k < orders; k++) {
            char order = "nsdlcaxsss".charAt(below(10));
            text.append(order);
            if ("dlcax".indexOf(order) >= 0) {
                text.append(below(4) == 0 ? "0" : "").append(below(6) == 0 ? below(12) : below(2));
            }
            text.append(';');
        }
        if (below(3) == 0 && text.length() > 0) {
            char odd = "ns;d0159q: lc".charAt(below(13));
            switch (below(3)) {
                case 0:
                    text.setCharAt(below(text.length()), odd);
                    break;
                case 1:
                    text.insert(below(text.length() + 1), odd);
                    break;
                default:
                    text.deleteCharAt(below(text.length()));
                    break;
            }
        }
        for (int k = 0; k < text.length(); k++) {
            int sign = text.charAt(k);
            same("append(" + sign + ")", () -> x.append(sign), () -> m.append(sign));
        }
        int[] answer = new int[1];
        same("carryOut() of " + text, x::carryOut, () -> answer[0] = m.carryOut());
        met[answer[0] >= 0 ? 6 : answer[0] <= -1000 ? 5 : 4]++;
    }

    private void random(int profile) {
        int links = profile == 2 ? 90 : 70;
        int kind = below(100);
        if (kind < links) {
            linkCall(profile);
        } else if (kind < links + 4) {
            setSomething(below(4));
        } else if (kind < links + 6) {
            int times = below(6) == 0 ? value(20) : 1 + below(4);
            same("stream(" + times + ")", () -> x.stream(times), () -> m.stream(times));
        } else if (kind == links + 6 && profile != 2) {
            same("deliverAll()", x::deliverAll, m::deliverAll);
        } else if (kind == links + 7) {
            met[9]++;
            same("undo()", x::undo, m::undo);
        } else if (kind < links + 9 && profile == 1) {
            script();
        } else {
            askSomething();
        }
    }

    private void linkCall(int profile) {
        int forward = m.now.forward.size();
        int back = m.now.back.size();
        // The third way keeps old packets back until their last bits mislead the receiver.
        int last = profile == 2 && below(15) != 0 ? forward - 1 - below(2) : index(forward);
        int kind = below(24);
        if (kind < 8 && forward < 20 || kind == 0) {
            act('n', 0);
            act('s', 0);
        } else if (kind < 15) {
            act(kind < 13 || profile == 2 && below(2) == 0 ? 'd' : 'l', last);
        } else if (kind < 17 && (profile != 2 || below(4) == 0)) {
            act('c', index(forward));
        } else {
            act(below(6) == 0 ? 'x' : 'a', index(back));
        }
    }

    private void go(int profile) {
        set(2, 1 + below(2), below(4), 0);
        for (int round = 0; calls < CALLS - 120; round++) {
            random(profile);
            if (round % 16 == 0) {
                sameDigest();
            }
            if (m.now.back.size() == 20) {
                met[7]++;
            }
        }
        sameDigest();
        tally();
    }

    private void tally() {
        for (int outcome = 0; outcome < 4; outcome++) {
            met[outcome] += m.now.outcomes[outcome];
        }
        met[8] += m.now.packets.size() == 500 ? 1 : 0;
        met[10] += m.now.highest > 499 ? 1 : 0;
    }

    private void streams() {
        set(2, below(3), below(16), 0);
        while (calls < 300 && m.now.packets.size() < 500) {
            int times = below(4) == 0 ? 1 + below(20) : 20;
            same("stream(" + times + ")", () -> x.stream(times), () -> m.stream(times));
            if (below(3) == 0) {
                act('l', index(m.now.forward.size()));
            }
            if (below(8) != 0) {
                same("deliverAll()", x::deliverAll, m::deliverAll);
            }
            if (below(3) == 0) {
                act('a', index(m.now.back.size()));
            }
            if (below(9) == 0) {
                same("undo()", x::undo, m::undo);
            }
            if (below(5) == 0) {
                setSomething(below(4));
            }
        }
        sameDigest();
        askSomething();
        tally();
    }

    /** Five packets, copied on and on, whose last bits lead the receiver 64 numbers up a round. */
    private void climb(int form) {
        set(2, form, 15, 0);
        for (int number = 0; number <= 64; number++) {
            if (number == 64) {
                set(2, form, 4, 0);
            }
            act('n', 0);
            act('s', 0);
            if (number == 0) {
                act('d', 0);
            } else if (number % 15 != 0 && number != 64) {
                act('l', m.now.forward.size() - 1);
            }
        }
        for (int round = 0; calls < 500; round++) {
            act('c', 0);
            act('d', 0);
            if (round % 10 == 0) {
                sameDigest();
            }
        }
        for (int back = 0; back < 3; back++) {
            int number = m.now.highest - 15 * back;
            same("record", () -> x.record(number, 1), () -> m.ask(6, number, 1));
        }
        sameDigest();
        tally();
    }

    public static void main(String[] args) {
        for (int run = 0; run < RUNS; run++) {
            ModelRuns one = new ModelRuns(run);
            if (run < 2) {
                one.climb(1 + run);
            } else if (run % 10 == 9) {
                one.streams();
            } else {
                one.go(run % 3);
            }
        }
        for (int i = 0; i < MET.length; i++) {
            System.out.println(MET[i] + ": " + met[i]);
            if (met[i] == 0) {
                wrong++;
                System.out.println("no run met this");
            }
        }
        System.out.println(wrong == 0 ? "all runs agree" : wrong + " answers differ");
        if (wrong != 0) {
            System.exit(1);
        }
    }
}
