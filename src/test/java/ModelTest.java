import java.util.ArrayList;
import java.util.List;
import java.util.TreeMap;
import java.util.TreeSet;

/**
 * Long mixed runs of calls, each answer compared with that of a slow model that follows the document's
 * words with lists: every byte that is heard bears where it came from, pieces are kept for ever.
 */
public final class ModelTest {
    private static final int RUNS = 300;

    /** A byte on its way: its value, the frame it was of (null: of none), and its place in that. */
    private record Heard(int value, Laid of, int place) {
    }

    private record Laid(int[] bytes, int sort, int number, int load, boolean again) {
    }

    private static final class Side {
        final List<Integer> given = new ArrayList<>();
        final List<int[]> pieces = new ArrayList<>();
        final List<Integer> timers = new ArrayList<>();
        final TreeSet<Integer> kept = new TreeSet<>();
        final List<Integer> taken = new ArrayList<>();
        final TreeMap<Integer, int[]> held = new TreeMap<>();
        final List<Heard> heard = new ArrayList<>();
        int clock;
        int timer;
        int base;
        int wants;
        int pieced;
    }

    private static final class Model {
        int mode;
        int space;
        int window;
        int size;
        int timeout;
        Side[] sides;
        List<List<Laid>> lines;
        int[] counts;

        Model(int mode, int space, int window, int size, int timeout) {
            this.mode = mode;
            this.space = space;
            this.window = window;
            this.size = size;
            this.timeout = timeout;
            sides = new Side[] {new Side(), new Side()};
            lines = List.of(new ArrayList<>(), new ArrayList<>());
            counts = new int[16];
        }

        int tick() {
            counts[9]++;
            int before = counts[0];
            for (int e = 0; e < 2; e++) {
                Side s = sides[e];
                s.clock++;
                if (mode == 2) {
                    for (int p = s.base; p < s.pieces.size(); p++) {
                        if (!s.kept.contains(p) && s.clock - s.timers.get(p) >= timeout) {
                            layData(e, p, true);
                            s.timers.set(p, s.clock);
                        }
                    }
                } else if (s.base < s.pieces.size() && s.clock >= s.timer + timeout) {
                    for (int p = s.base; p < s.pieces.size(); p++) {
                        layData(e, p, true);
                    }
                    s.timer = s.clock;
                }
                while (s.pieces.size() < s.base + window && s.pieced < s.given.size()) {
                    int n = Math.min(size, s.given.size() - s.pieced);
                    int[] piece = new int[n];
                    for (int i = 0; i < n; i++) {
                        piece[i] = s.given.get(s.pieced + i);
                    }
                    s.pieced += n;
                    s.pieces.add(piece);
                    s.timers.add(s.clock);
                    if (s.pieces.size() - 1 == s.base) {
                        s.timer = s.clock;
                    }
                    layData(e, s.pieces.size() - 1, false);
                }
            }
            return counts[0] - before;
        }

        void layData(int e, int p, boolean again) {
            lay(e, Due.join(Due.bytes(p % space), sides[e].pieces.get(p)), again);
        }

        void lay(int line, int[] headAndLoad, boolean again) {
            counts[0]++;
            counts[1] += again ? 1 : 0;
            if (lines.get(line).size() == 40) {
                counts[2]++;
                return;
            }
            int head = headAndLoad[0];
            lines.get(line).add(new Laid(Due.framed(headAndLoad), head >> 6, head & 63, headAndLoad.length - 1,
                    again));
        }

        void hear(int e, Heard b) {
            Side s = sides[e];
            if (b.value != 0) {
                s.heard.add(b);
                return;
            }
            List<Heard> all = new ArrayList<>(s.heard);
            s.heard.clear();
            if (!all.isEmpty()) {
                int n = all.size();
                int[] bytes = new int[n];
                for (int i = 0; i < n; i++) {
                    bytes[i] = all.get(i).value;
                }
                all.add(b);
                body(e, bytes, isClean(all));
            }
        }

        static boolean isClean(List<Heard> all) {
            Laid of = all.get(0).of;
            if (of == null || of.bytes.length != all.size()) {
                return false;
            }
            for (int i = 0; i < all.size(); i++) {
                Heard h = all.get(i);
                if (h.of != of || h.place != i || h.value != of.bytes[i]) {
                    return false;
                }
            }
            return true;
        }

        void body(int e, int[] stuffed, boolean clean) {
            int[] body = plain(stuffed);
            int kind = kind(stuffed, body);
            if (kind > 0) {
                counts[7]++;
                counts[10 + kind]++;
                return;
            }
            counts[4]++;
            counts[8] += clean ? 0 : 1;
            int number = body[0] & 63;
            int[] load = java.util.Arrays.copyOfRange(body, 1, body.length - 4);
            if (body[0] < 64) {
                data(e, number, load);
            } else {
                known(e, number, load);
            }
        }

        int kind(int[] stuffed, int[] body) {
            if (stuffed.length > 120) {
                return 5;
            }
            if (body == null) {
                return 1;
            }
            if (body.length < 5) {
                return 2;
            }
            int n = body.length - 4;
            int crc = Due.crc(java.util.Arrays.copyOf(body, n));
            int told = body[n] | body[n + 1] << 8 | body[n + 2] << 16 | body[n + 3] << 24;
            if (crc != told) {
                return 3;
            }
            int load = n - 1;
            boolean right = switch (body[0] >> 6) {
                case 0 -> load >= 1 && load <= size;
                case 1 -> load == (mode == 2 ? (int) Math.ceil((window - 1) / 8.0) : 0);
                default -> false;
            };
            return right && (body[0] & 63) < space ? 0 : 4;
        }

        /** Null with a fault. */
        static int[] plain(int[] from) {
            List<Integer> to = new ArrayList<>();
            int at = 0;
            int code = 255;
            while (at < from.length) {
                code = from[at];
                if (code == 0 || at + code > from.length) {
                    return null;
                }
                for (int i = at + 1; i < at + code; i++) {
                    if (from[i] == 0) {
                        return null;
                    }
                    to.add(from[i]);
                }
                if (code != 255) {
                    to.add(0);
                }
                at += code;
            }
            if (code == 255) {
                return null;
            }
            to.remove(to.size() - 1);
            return to.stream().mapToInt(i -> i).toArray();
        }

        void data(int e, int number, int[] load) {
            Side s = sides[e];
            if (mode == 2) {
                int piece = s.wants;
                while (piece % space != number) {
                    piece++;
                }
                if (piece >= s.wants + window || s.held.containsKey(piece)) {
                    counts[5]++;
                } else {
                    s.held.put(piece, load);
                    while (s.held.containsKey(s.wants)
                            && s.taken.size() + s.held.get(s.wants).length <= 3000) {
                        for (int b : s.held.remove(s.wants)) {
                            s.taken.add(b);
                        }
                        s.wants++;
                    }
                }
                int[] bits = new int[(window + 6) / 8];
                for (int piece2 : s.held.keySet()) {
                    int k = piece2 - s.wants - 1;
                    if (k >= 0) {
                        bits[k / 8] |= 1 << k % 8;
                    }
                }
                lay(e, Due.join(Due.bytes(64 + s.wants % space), bits), false);
                return;
            }
            if (number != s.wants % space) {
                counts[5]++;
            } else if (s.taken.size() + load.length > 3000) {
                counts[5]++;
                return;
            } else {
                for (int b : load) {
                    s.taken.add(b);
                }
                s.wants++;
            }
            lay(e, Due.bytes(64 + s.wants % space), false);
        }

        void known(int e, int number, int[] load) {
            Side s = sides[e];
            int base = s.base;
            while (base % space != number) {
                base++;
            }
            if (base > s.pieces.size()) {
                counts[6]++;
                return;
            }
            if (base > s.base) {
                s.timer = s.clock;
            }
            s.base = base;
            for (int k = 0; k < load.length * 8; k++) {
                if ((load[k / 8] >> k % 8 & 1) == 1 && base + k + 1 < s.pieces.size()) {
                    s.kept.add(base + k + 1);
                }
            }
        }

        void bring(Laid f, int to, int from, int until, int changeAt, int change) {
            for (int i = from; i < until; i++) {
                hear(to, new Heard(i == changeAt ? f.bytes[i] ^ change : f.bytes[i], f, i));
            }
        }

        int carry(int line, int how, int arg) {
            List<Laid> l = lines.get(line);
            if (l.isEmpty() || how < 0 || how > 5) {
                return -1;
            }
            Laid f = l.get(0);
            int n = f.bytes.length;
            int at = how == 3 ? arg >> 8 : arg;
            if ((how == 3 || how == 4) && (at < 0 || at >= n)) {
                return -1;
            }
            int to = 1 - line;
            switch (how) {
                case 1 -> counts[3]++;
                case 3 -> bring(f, to, 0, n, at, arg & 255);
                case 4 -> bring(f, to, 0, at, -1, 0);
                case 5 -> {
                    hear(to, new Heard(arg & 255, null, 0));
                    bring(f, to, 0, n, -1, 0);
                }
                default -> bring(f, to, 0, n, -1, 0);
            }
            if (how != 2) {
                l.remove(0);
            }
            return l.size();
        }

        int round() {
            tick();
            int heard = 0;
            while (!lines.get(0).isEmpty() || !lines.get(1).isEmpty()) {
                carry(lines.get(0).isEmpty() ? 1 : 0, 0, 0);
                heard++;
            }
            return heard;
        }

        int state(int e, int what) {
            Side s = sides[e];
            return switch (what) {
                case 0 -> s.given.size();
                case 1 -> s.pieced;
                case 2 -> s.base;
                case 3 -> s.pieces.size();
                case 4 -> s.wants;
                case 5 -> s.taken.size();
                case 6 -> s.held.size();
                case 7 -> s.clock;
                case 8 -> Math.min(120, s.heard.size());
                case 9 -> s.kept.tailSet(s.base).size();
                default -> -1;
            };
        }
    }

    private static long seed = 1;

    private static int any(int below) {
        seed = seed * 6364136223846793005L + 1442695040888963407L;
        return (int) ((seed >>> 33) % below);
    }

    private static int wild() {
        return switch (any(6)) {
            case 0 -> -1;
            case 1 -> Integer.MAX_VALUE;
            case 2 -> Integer.MIN_VALUE;
            case 3 -> any(70000) - 1000;
            default -> any(80);
        };
    }

    public static void main(String[] args) {
        for (int run = 0; run < RUNS; run++) {
            mixedRun(run);
        }
        for (int run = 0; run < RUNS; run++) {
            wildRun();
        }
        Due.end("ModelTest");
    }

    private static void mixedRun(int run) {
        int mode = run % 3;
        int space = any(4) == 0 ? 2 + any(63) : 2 + any(8);
        int most = mode == 0 ? 1 : mode == 1 ? space - 1 : space / 2;
        int window = any(3) == 0 ? most : 1 + any(most);
        int size = any(3) == 0 ? 60 : 1 + any(60);
        int timeout = 1 + any(any(4) == 0 ? 50 : 4);
        SerialLink x = new SerialLink();
        Due.is("open", x.open(mode, space, window, size, timeout), true);
        Model m = new Model(mode, space, window, size, timeout);
        int honest = any(5);
        for (int call = 0; call < 250; call++) {
            String told = "run " + run + ", call " + call + ": ";
            step(told, x, m, honest);
            same(told, x, m);
        }
        sameBytes(run, x, m);
    }

    private static void step(String told, SerialLink x, Model m, int honest) {
        int what = any(honest == 0 ? 12 : 9);
        int line = any(2);
        if (what == 0) {
            int[] bytes = new int[any(4) == 0 ? any(1201) : any(60)];
            for (int i = 0; i < bytes.length; i++) {
                bytes[i] = any(3) == 0 ? 0 : any(256);
            }
            Due.tape(x, bytes);
            List<Integer> given = m.sides[line].given;
            if (given.size() + bytes.length <= 3000) {
                for (int b : bytes) {
                    given.add(b);
                }
                Due.is(told + "give", x.give(line), given.size());
            } else {
                Due.is(told + "give", x.give(line), -1);
            }
        } else if (what <= 2) {
            Due.is(told + "tick", x.tick(), m.tick());
        } else if (what == 3 && any(3) == 0) {
            Due.is(told + "round", x.round(), m.round());
        } else if (what <= 8) {
            int how = any(3) > 0 ? 0 : any(6);
            int arg = how == 3 ? any(70) * 256 + (any(5) == 0 ? 0 : any(256)) : any(70);
            if (how == 5 && any(3) == 0) {
                arg = 0;
            }
            Due.is(told + "carry " + line + ", " + how + ", " + arg, x.carry(line, how, arg),
                    m.carry(line, how, arg));
        } else {
            forge(told, x, m, line);
        }
    }

    private static void forge(String told, SerialLink x, Model m, int end) {
        int[] body = new int[1 + any(any(3) == 0 ? 70 : m.size + 1)];
        for (int i = 0; i < body.length; i++) {
            body[i] = any(256);
        }
        Side s = m.sides[end];
        int kind = any(8);
        if (kind < 4) {
            body[0] = (s.wants + any(4)) % m.space;
        } else if (kind < 6) {
            body = java.util.Arrays.copyOf(body, 1 + (m.mode == 2 ? (m.window + 6) / 8 : 0));
            body[0] = 64 + (s.base + any(4)) % m.space;
        }
        int[] sent = any(6) == 0 ? Due.join(body, Due.bytes(0)) : Due.framed(body);
        for (int at = 0; at < sent.length; at += 4) {
            int n = Math.min(4, sent.length - at);
            int bytes = any(2) == 0 || n == 4 ? 0 : -1 << 8 * n;
            for (int i = 0; i < n; i++) {
                bytes |= sent[at + i] << 8 * (n - 1 - i);
                m.hear(end, new Heard(sent[at + i], null, 0));
            }
            Due.is(told + "noise", x.noise(end, bytes, n), n);
        }
    }

    private static void same(String told, SerialLink x, Model m) {
        for (int e = 0; e < 2; e++) {
            for (int what = -1; what < 11; what++) {
                Due.is(told + "state " + e + ", " + what, x.state(e, what), m.state(e, what));
            }
            Due.is(told + "line " + e, x.line(e), m.lines.get(e).size());
        }
        for (int what = 0; what < 16; what++) {
            if (what != 10) {
                Due.is(told + "count " + what, x.count(what), m.counts[what]);
            }
        }
    }

    private static void sameBytes(int run, SerialLink x, Model m) {
        for (int e = 0; e < 2; e++) {
            List<Laid> line = m.lines.get(e);
            for (int k = 0; k < line.size(); k++) {
                Laid f = line.get(k);
                String told = "run " + run + ", line " + e + ", frame " + k;
                Due.frameIs(told, x, e, k, f.bytes);
                Due.is(told + ", sort", x.frame(e, k, 1), f.sort);
                Due.is(told + ", number", x.frame(e, k, 2), f.number);
                Due.is(told + ", load", x.frame(e, k, 3), f.load);
                Due.is(told + ", again", x.frame(e, k, 4), f.again ? 1 : 0);
            }
            Due.takenIs("run " + run, x, e, m.sides[e].taken.stream().mapToInt(i -> i).toArray());
        }
    }

    /** Any arguments at all: nothing but the document's own exception, and that for a wrong end alone. */
    private static void wildRun() {
        SerialLink x = new SerialLink();
        for (int call = 0; call < 512; call++) {
            int end = any(8) == 0 ? wild() : any(2);
            boolean wrong = end < 0 || end > 1;
            int what = any(24);
            boolean thrown = false;
            try {
                wildCall(x, what, end);
            } catch (IndexOutOfBoundsException e) {
                thrown = e.getClass() == IndexOutOfBoundsException.class;
            }
            if (what < 9) {
                Due.is("call " + what + " of end " + end + " throws", thrown, wrong);
            } else {
                Due.is("call " + what + " throws", thrown, false);
            }
        }
    }

    private static void wildCall(SerialLink x, int what, int end) {
        switch (what) {
            case 0 -> x.give(end);
            case 1, 2 -> x.carry(end, any(3) == 0 ? wild() : any(6), wild());
            case 3 -> x.noise(end, wild(), any(3) == 0 ? wild() : any(5));
            case 4 -> x.frame(end, wild(), wild());
            case 5 -> x.octet(end, wild(), wild());
            case 6 -> x.line(end);
            case 7 -> x.state(end, wild());
            case 8 -> x.taken(end, wild());
            case 9 -> x.open(any(3), 2 + any(63), 1 + any(any(2) == 0 ? 2 : 32), 1 + any(60), 1 + any(9));
            case 10 -> x.open(wild(), wild(), wild(), wild(), wild());
            case 11, 12, 13 -> x.feed(wild(), wild(), wild(), wild(), wild());
            case 14 -> x.cut(wild());
            case 15 -> x.take();
            case 16, 17 -> x.tick();
            case 18 -> x.round();
            case 19 -> x.count(wild());
            case 20 -> x.stuff();
            case 21 -> x.unstuff();
            case 22 -> x.check();
            default -> x.out(x.fault(wild()) + wild());
        }
    }
}
