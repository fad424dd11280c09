import java.util.ArrayList;
import java.util.List;

/**
 * Two objects with the same calls behind them: one gets one call more, and all that can be seen of both,
 * now and in what comes later, is compared.
 */
final class Twins {
    private Twins() {
    }

    interface Make {
        SerialLink make();
    }

    interface Ask {
        int of(SerialLink x);
    }

    /** A call that is refused, or one that only asks: its answer is due, and nothing changes by it. */
    static void changesNothing(String call, Make make, Ask ask, int due) {
        SerialLink x = make.make();
        Due.is(call, ask.of(x), due);
        same(call + " changes nothing", x, make.make());
    }

    /** A call that throws: the document's exception, made by the class itself, and nothing changes by it. */
    static void throwsAndChangesNothing(String call, Make make, Ask ask) {
        SerialLink x = make.make();
        Due.outOfBounds(call, () -> ask.of(x));
        same(call + " changes nothing", x, make.make());
    }

    static void same(String call, SerialLink x, SerialLink y) {
        List<Integer> one = whole(x);
        List<Integer> other = whole(y);
        Due.is(call + ", what can be seen", one.size(), other.size());
        int differ = -1;
        for (int i = Math.min(one.size(), other.size()) - 1; i >= 0; i--) {
            differ = one.get(i).equals(other.get(i)) ? differ : i;
        }
        Due.is(call + ", the first that differs", differ, -1);
    }

    /** Whether all that can be seen of both is the same: for tests of these tests. */
    static boolean areSame(SerialLink x, SerialLink y) {
        return whole(x).equals(whole(y));
    }

    /** What can be seen, then what a row of calls makes of it: that tells timers, and what is held and heard. */
    private static List<Integer> whole(SerialLink x) {
        List<Integer> seen = new ArrayList<>();
        look(x, seen);
        tape(x, seen);
        later(x, seen);
        return seen;
    }

    private static void look(SerialLink x, List<Integer> seen) {
        for (int end = 0; end < 2; end++) {
            for (int what = 0; what < 10; what++) {
                seen.add(x.state(end, what));
            }
            for (int i = 0; i < x.state(end, 5); i++) {
                seen.add(x.taken(end, i));
            }
            seen.add(x.line(end));
            for (int k = 0; k < x.line(end); k++) {
                for (int what = 0; what < 5; what++) {
                    seen.add(x.frame(end, k, what));
                }
                for (int i = 0; i < x.frame(end, k, 0); i++) {
                    seen.add(x.octet(end, k, i));
                }
            }
        }
        for (int what = 0; what < 16; what++) {
            seen.add(x.count(what));
        }
        seen.add(x.fault(0));
        seen.add(x.fault(1));
        for (int i = 0; i < 1300; i++) {
            seen.add(x.out(i));
        }
    }

    /** What stuffing makes of the tape tells its bytes; then it is put back. */
    private static void tape(SerialLink x, List<Integer> seen) {
        int n = x.stuff();
        seen.add(n);
        for (int i = 0; i < n; i++) {
            seen.add(x.out(i));
        }
        x.take();
        seen.add(x.unstuff());
        seen.add(x.take());
        seen.add(x.give(0));
        seen.add(x.feed(1, 2, 3, 4, 5));
        seen.add(x.give(1));
    }

    private static void later(SerialLink x, List<Integer> seen) {
        for (int turn = 0; turn < 3; turn++) {
            seen.add(x.tick());
            seen.add(x.carry(0, 0, 0));
            seen.add(x.carry(1, 0, 0));
            look(x, seen);
        }
        for (int end = 0; end < 2; end++) {
            x.noise(end, 0, 1);
            for (int number = 0; number < 8; number++) {
                Due.noise(x, end, Due.framed(number, 99));
            }
        }
        look(x, seen);
        for (int turn = 0; turn < 9; turn++) {
            seen.add(x.round());
        }
        look(x, seen);
    }

    /** Something of everything: on the tape, in OUT, a fault, given, laid, heard, held, kept, taken, counted. */
    static SerialLink busy(int mode) {
        SerialLink x = new SerialLink();
        x.open(mode, 8, mode == 0 ? 1 : 4, 5, 4);
        Due.give(x, 0, Due.full(63, 0));
        Due.give(x, 1, Due.full(44, 100));
        x.tick();
        x.carry(0, 1, 0);
        x.carry(0, 0, 0);
        for (int i = 0; i < 4; i++) {
            x.carry(1, 0, 0);
        }
        x.tick();
        x.carry(1, 2, 0);
        x.tick();
        Due.noise(x, 0, Due.join(Due.framed(64 + 7), Due.framed(1, 2, 3)));
        Due.noise(x, 1, Due.join(Due.bytes(9, 0), Due.framed(mode == 2 ? 3 : 0, 44, 55)));
        x.noise(0, 0x0505, 2);
        x.noise(1, 0x060606, 3);
        Due.tape(x, Due.bytes(1, 1, 9));
        x.unstuff();
        Due.tape(x, Due.bytes(5, 0, 7));
        x.stuff();
        Due.tape(x, Due.bytes(1, 2, 3));
        return x;
    }

    /** All that has a most is full: the tape, OUT, the bytes given, both lines, the bytes heard. */
    static SerialLink full(int mode) {
        SerialLink x = new SerialLink();
        x.open(mode, 64, mode == 0 ? 1 : mode == 1 ? 41 : 32, 1, mode == 0 ? 1 : 2);
        Due.tape(x, Due.full(1200, 3));
        x.stuff();
        for (int end = 0; end < 2; end++) {
            for (int n : new int[] {1200, 1200, 600}) {
                x.take();
                x.cut(n);
                x.give(end);
            }
        }
        for (int i = 0; i < 41; i++) {
            x.tick();
        }
        for (int end = 0; end < 2; end++) {
            for (int i = 0; i < 31; i++) {
                x.noise(end, 0x01010101, 4);
            }
        }
        x.take();
        return x;
    }
}
