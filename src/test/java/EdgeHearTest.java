import java.util.Arrays;

/** The edges of promises 8 carry and 10 noise, and of the terms HEARD, BODY, HEAD, WRONG, CLEAN, FORGED. */
public final class EdgeHearTest {
    public static void main(String[] args) {
        ofNoBytesNothingComes();
        aZeroEndsWhatCame();
        kindOne();
        fewerThanFiveBytes();
        eachByteOfTheCheck();
        anotherSort();
        numberBelowSpace();
        loadOfData();
        loadOfAKnown();
        moreThan120Bytes();
        aheadOfOne();
        kindsInTheirOrder();
        wrongChangesNothingElse();
        noiseHighestFirst();
        noiseOfAnotherN();
        carryOfNoFrame();
        carryAnotherHow();
        carryChangesAnyByte();
        carryChangesAByteThatItHasNot();
        carryLosesFromAnyByteOn();
        carryLosesFromAByteThatItHasNot();
        carryABytesLowestBits();
        carryHowManyThen();
        carryStays();
        cleanIsAllBytesOfOne();
        notCleanBehindOtherBytes();
        notCleanInPart();
        cleanBehindAZero();
        cleanBehindTooMany();
        forgedAreTaken();
        Due.end("EdgeHearTest");
    }

    /** Three DATA of 2 bytes on LINE 0: 11 12, 13 14, 15 16. */
    private static SerialLink three() {
        SerialLink x = new SerialLink();
        x.open(1, 8, 4, 2, 9);
        Due.give(x, 0, Due.bytes(11, 12, 13, 14, 15, 16));
        x.tick();
        return x;
    }

    private static SerialLink opened(int mode, int space, int window, int size) {
        SerialLink x = new SerialLink();
        Due.is("open", x.open(mode, space, window, size, 9), true);
        return x;
    }

    private static int[] ended(int[] bytes) {
        return Due.join(bytes, Due.bytes(0));
    }

    /** What end 0 of a new link with this setting makes of a heard row: 0 taken, else the kind of WRONG. */
    private static int kindOf(SerialLink x, int[] bytes) {
        int[] before = new int[16];
        for (int what = 0; what < 16; what++) {
            before[what] = x.count(what);
        }
        Due.noise(x, 0, bytes);
        int kind = x.count(4) - before[4] == 1 ? 0 : -1;
        for (int k = 1; k <= 5; k++) {
            if (x.count(10 + k) != before[10 + k]) {
                Due.is("of one kind alone", kind, -1);
                Due.is("counted once", x.count(10 + k) - before[10 + k], 1);
                kind = k;
            }
        }
        Due.is("all kinds together", x.count(7) - before[7], kind > 0 ? 1 : 0);
        Due.is("nothing left", x.state(0, 8), 0);
        return kind;
    }

    /** "of no bytes nothing comes" */
    private static void ofNoBytesNothingComes() {
        for (int n = 1; n <= 4; n++) {
            int by = n;
            Twins.changesNothing("noise of zeros alone", EdgeHearTest::three, x -> x.noise(0, 0, by), n);
            Twins.changesNothing("noise of zeros alone", EdgeHearTest::three, x -> x.noise(1, 0, by), n);
        }
        SerialLink x = three();
        for (int i = 0; i < 50; i++) {
            x.noise(1, 0, 4);
        }
        Due.is("nothing comes", x.count(7) + x.count(4), 0);
        Due.is("the next one is taken", kindOf(x, Due.framed(0, 1)), 0);
    }

    /** "A 0 ends what came behind the 0 before": behind the start, too */
    private static void aZeroEndsWhatCame() {
        SerialLink x = opened(1, 8, 4, 9);
        Due.noise(x, 0, Due.framed(0, 1));
        Due.is("behind the start", x.count(4), 1);
        Due.noise(x, 0, Due.framed(1, 2));
        Due.is("behind a 0", x.count(4), 2);
        Due.noise(x, 0, Due.bytes(0));
        Due.noise(x, 0, Due.framed(2, 3));
        Due.is("behind two", x.count(4), 3);
        Due.noise(x, 0, Due.bytes(5));
        Due.is("one byte is heard", x.state(0, 8), 1);
        Due.noise(x, 0, Due.framed(3, 4));
        Due.is("a byte ahead is of the same body", x.count(7), 1);
        Due.takenIs("in order", x, 0, Due.bytes(1, 2, 3));
        int[] frame = Due.framed(3, 4);
        for (int i = 0; i < frame.length - 1; i++) {
            x.noise(0, frame[i], 1);
            Due.is("bytes heard", x.state(0, 8), i + 1);
            Due.is("not ended yet", x.state(0, 5), 3);
        }
        x.noise(0, 0, 1);
        Due.is("none since the 0", x.state(0, 8), 0);
        Due.takenIs("ended", x, 0, Due.bytes(1, 2, 3, 4));
    }

    /** "kind 1 FAULTS of unstuffing": a CODE with fewer bytes behind it (a 0 never is among these) */
    private static void kindOne() {
        SerialLink x = opened(1, 8, 4, 60);
        for (int n = 1; n <= 120; n++) {
            Due.is("CODE too high by one, " + n, kindOf(x, ended(Due.join(Due.bytes(n + 1), Due.full(n - 1, 0)))), 1);
            int right = n < 6 ? 2 : 3;
            Due.is("CODE right, " + n, kindOf(x, ended(Due.join(Due.bytes(n), Due.full(n - 1, 0)))), right);
        }
        Due.is("CODE 255", kindOf(x, ended(Due.join(Due.bytes(255), Due.full(119, 0)))), 1);
    }

    /** "2 fewer than 5 bytes" */
    private static void fewerThanFiveBytes() {
        for (int mode = 0; mode < 3; mode++) {
            SerialLink x = opened(mode, 8, 1, 9);
            Due.is("0 bytes", kindOf(x, Due.bytes(1, 0)), 2);
            Due.is("1 byte", kindOf(x, ended(Due.stuffed(64))), 2);
            Due.is("2 bytes", kindOf(x, ended(Due.stuffed(64, 1))), 2);
            Due.is("3 bytes", kindOf(x, ended(Due.stuffed(64, 1, 1))), 2);
            Due.is("4 bytes", kindOf(x, ended(Due.stuffed(64, 1, 1, 1))), 2);
            // Four bytes that are the CHECK of none.
            Due.is("the CHECK of none", kindOf(x, ended(Due.stuffed(Due.sealed()))), 2);
            Due.is("5 bytes", kindOf(x, ended(Due.stuffed(64, 1, 1, 1, 1))), 3);
            Due.is("5 bytes with their CHECK", kindOf(x, Due.framed(64)), 0);
        }
    }

    /** "the CHECK of both, four bytes, the lowest first", "3 the CHECK" */
    private static void eachByteOfTheCheck() {
        SerialLink x = opened(1, 8, 4, 9);
        int[] body = Due.sealed(0, 77, 0, 200);
        for (int at = 0; at < body.length; at++) {
            for (int bit = 0; bit < 8; bit++) {
                int[] changed = body.clone();
                changed[at] ^= 1 << bit;
                Due.is("byte " + at + ", bit " + bit, kindOf(x, ended(Due.stuffed(changed))), 3);
            }
        }
        int[] turned = body.clone();
        for (int i = 0; i < 4; i++) {
            turned[4 + i] = body[7 - i];
        }
        Due.is("the highest first", kindOf(x, ended(Due.stuffed(turned))), 3);
        Due.is("the lowest first", kindOf(x, ended(Due.stuffed(body))), 0);
        Due.takenIs("taken", x, 0, Due.bytes(77, 0, 200));
    }

    /** "4 another sort" */
    private static void anotherSort() {
        for (int mode = 0; mode < 3; mode++) {
            SerialLink x = opened(mode, 64, 1, 9);
            for (int head = 128; head < 256; head++) {
                Due.is("HEAD " + head + " with a LOAD", kindOf(x, Due.framed(head, 1)), 4);
                Due.is("HEAD " + head + " without", kindOf(x, Due.framed(head)), 4);
            }
            for (int head = 0; head < 64; head++) {
                Due.is("HEAD " + head, kindOf(x, Due.framed(head, 1)), 0);
                Due.is("HEAD " + (64 + head), kindOf(x, Due.framed(64 + head)), 0);
            }
        }
    }

    /** "a number not below SPACE" */
    private static void numberBelowSpace() {
        for (int space = 2; space <= 64; space++) {
            SerialLink x = opened(1, space, 1, 9);
            Due.is("DATA SPACE - 1", kindOf(x, Due.framed(space - 1, 1)), 0);
            Due.is("KNOWN SPACE - 1", kindOf(x, Due.framed(64 + space - 1)), 0);
            if (space < 64) {
                Due.is("DATA SPACE", kindOf(x, Due.framed(space, 1)), 4);
                Due.is("KNOWN SPACE", kindOf(x, Due.framed(64 + space)), 4);
                Due.is("DATA 63", kindOf(x, Due.framed(63, 1)), 4);
                Due.is("KNOWN 63", kindOf(x, Due.framed(127)), 4);
            }
        }
    }

    /** "DATA (LOAD 1 .. SIZE bytes)" */
    private static void loadOfData() {
        for (int mode = 0; mode < 3; mode++) {
            for (int size : new int[] {1, 2, 59, 60}) {
                SerialLink x = opened(mode, 8, 1, size);
                Due.is("LOAD 0", kindOf(x, Due.framed(0)), 4);
                Due.is("LOAD 1", kindOf(x, Due.framed(0, 9)), 0);
                Due.is("LOAD SIZE", kindOf(x, Due.framed(Due.join(Due.bytes(1), Due.full(size, 3)))), 0);
                Due.is("LOAD SIZE + 1", kindOf(x, Due.framed(Due.join(Due.bytes(2), Due.full(size + 1, 3)))), 4);
                Due.is("LOAD 113", kindOf(x, Due.framed(Due.join(Due.bytes(2), Due.full(113, 3)))), 4);
                Due.takenIs("SIZE " + size, x, 0, Due.join(Due.bytes(9), Due.full(size, 3)));
            }
        }
    }

    /** "1 KNOWN (by MODES 0 and 1 no LOAD; by MODE 2 as many bytes as WINDOW - 1 bits want)" */
    private static void loadOfAKnown() {
        for (int mode = 0; mode < 2; mode++) {
            for (int window = 1; window <= (mode == 0 ? 1 : 63); window++) {
                SerialLink x = opened(mode, 64, window, 9);
                Due.is("a KNOWN without", kindOf(x, Due.framed(64)), 0);
                Due.is("a KNOWN with a LOAD", kindOf(x, Due.framed(64, 0)), 4);
                Due.is("a KNOWN with two", kindOf(x, Due.framed(64, 0, 0)), 4);
            }
        }
        for (int window = 1; window <= 32; window++) {
            int want = window == 1 ? 0 : window <= 9 ? 1 : window <= 17 ? 2 : window <= 25 ? 3 : 4;
            SerialLink x = opened(2, 64, window, 9);
            for (int load = 0; load <= 6; load++) {
                int[] known = Due.join(Due.bytes(64), new int[load]);
                Due.is("WINDOW " + window + ", LOAD " + load, kindOf(x, Due.framed(known)), load == want ? 0 : 4);
            }
            Due.noise(x, 0, Due.framed(0, 1));
            Due.is("the KNOWN that is laid", x.frame(0, 0, 3), want);
            Due.is("and its bytes", x.frame(0, 0, 0), Due.framed(Due.join(Due.bytes(65), new int[want])).length);
        }
    }

    /** "5 more than 120 bytes"; "8 bytes heard since the 0 before (120 at most)" */
    private static void moreThan120Bytes() {
        SerialLink x = opened(1, 8, 4, 60);
        for (int i = 1; i <= 300; i++) {
            x.noise(1, 1 + i % 255, 1);
            Due.is("heard", x.state(1, 8), Math.min(i, 120));
        }
        x.noise(1, 0, 1);
        Due.is("kind 5", x.count(15), 1);
        Due.is("heard then", x.state(1, 8), 0);
        int[] ones = new int[240];
        Arrays.fill(ones, 1);
        Due.is("119 bytes", kindOf(x, ended(Arrays.copyOf(ones, 119))), 3);
        Due.is("120 bytes", kindOf(x, ended(Arrays.copyOf(ones, 120))), 3);
        Due.is("121 bytes", kindOf(x, ended(Arrays.copyOf(ones, 121))), 5);
        Due.is("240 bytes", kindOf(x, ended(ones)), 5);
        Due.is("and then 120 again", kindOf(x, ended(Arrays.copyOf(ones, 120))), 3);
        // With the CHECK right: 120 bytes have a LOAD of a length that no BODY has.
        int[] r114 = Due.full(114, 1);
        int[] r115 = Due.full(115, 1);
        Due.is("stuffed to 120", Due.framed(Due.join(Due.bytes(0), r114)).length, 121);
        Due.is("120 with a CHECK", kindOf(x, Due.framed(Due.join(Due.bytes(0), r114))), 4);
        Due.is("121 with a CHECK", kindOf(x, Due.framed(Due.join(Due.bytes(0), r115))), 5);
        Due.is("the next one", kindOf(x, Due.framed(0, 1)), 0);
    }

    /** "(ahead of 1)" */
    private static void aheadOfOne() {
        SerialLink x = opened(1, 8, 4, 60);
        int[] bad = Due.full(121, 100);
        Due.is("121 bytes with a FAULT", kindOf(x, ended(bad)), 5);
        Due.is("120 bytes with a FAULT", kindOf(x, ended(Arrays.copyOf(bad, 120))), 1);
        int[] fewer = Due.join(Due.bytes(255), Due.full(254, 1));
        Due.is("CODE 255 at the end", kindOf(x, ended(fewer)), 5);
    }

    /** Of two kinds at once the one ahead in the document's row is told. */
    private static void kindsInTheirOrder() {
        SerialLink x = opened(1, 8, 4, 2);
        Due.is("1 ahead of 2", kindOf(x, Due.bytes(1, 1, 5, 0)), 1);
        Due.is("2 ahead of 3", kindOf(x, ended(Due.stuffed(200, 1, 2, 3))), 2);
        Due.is("3 ahead of 4", kindOf(x, ended(Due.stuffed(200, 1, 2, 3, 4))), 3);
        Due.is("3 ahead of 4, a LOAD too long", kindOf(x, ended(Due.stuffed(0, 1, 2, 3, 4, 5, 6, 7))), 3);
    }

    /** WRONG: nothing is laid, taken, held, known by it. */
    private static void wrongChangesNothingElse() {
        int[][] wrong = {{9, 0}, {1, 0}, ended(Due.stuffed(0, 1, 2, 3, 4, 5)), Due.framed(128, 1),
            ended(Due.full(121, 5))};
        for (int mode = 0; mode < 3; mode++) {
            for (int[] w : wrong) {
                SerialLink x = Twins.busy(mode);
                x.noise(0, 0, 1);
                x.noise(1, 0, 1);
                int[] before = seen(x);
                Due.noise(x, 0, w);
                Due.noise(x, 1, w);
                int[] after = seen(x);
                Due.is("WRONG", after[0] - before[0], 2);
                after[0] = before[0];
                Due.is("nothing else", Arrays.equals(before, after), true);
            }
        }
    }

    private static int[] seen(SerialLink x) {
        int[] seen = new int[40];
        seen[0] = x.count(7);
        for (int what = 0; what < 10; what++) {
            seen[1 + what] = what == 7 ? 0 : x.count(what);
            seen[11 + what] = x.state(0, what);
            seen[21 + what] = x.state(1, what);
        }
        seen[31] = x.line(0);
        seen[32] = x.line(1);
        return seen;
    }

    /** "The n (1 .. 4) lowest bytes of a number, the highest of these first" */
    private static void noiseHighestFirst() {
        for (int n = 1; n <= 4; n++) {
            // Each row of n bytes that a frame bears, at the same place of the number.
            int[] frame = Due.framed(0, 200, 0, 129, 255, 7, 254);
            SerialLink x = opened(1, 8, 4, 9);
            int at = 0;
            for (; at + n <= frame.length; at += n) {
                int bytes = -1;
                for (int i = 0; i < n; i++) {
                    bytes = bytes << 8 | frame[at + i];
                }
                Due.is("noise of " + n, x.noise(1, bytes, n), n);
            }
            for (; at < frame.length; at++) {
                x.noise(1, frame[at] | 0x7FFFFF00, 1);
            }
            Due.takenIs("noise of " + n, x, 1, Due.bytes(200, 0, 129, 255, 7, 254));
        }
        SerialLink x = opened(1, 8, 4, 9);
        x.noise(0, 0x00000005, 1);
        x.noise(0, 0x00000505, 2);
        x.noise(0, 0x00050505, 3);
        Due.is("the 0 above is not heard", x.state(0, 8), 6);
        Due.is("nothing has ended", x.count(7), 0);
        x.noise(0, 0x00050505, 4);
        Due.is("the highest first", x.state(0, 8), 3);
        Due.is("it ended what was there", x.count(7), 1);
        x.noise(0, 0x05050500, 4);
        Due.is("the lowest last", x.state(0, 8), 0);
        Due.is("the other end heard nothing", x.state(1, 8), 0);
    }

    /** "NONE, doing nothing, for another n" */
    private static void noiseOfAnotherN() {
        for (int n : new int[] {0, 5, 6, 8, -1, -4, Integer.MAX_VALUE, Integer.MIN_VALUE}) {
            for (int end = 0; end < 2; end++) {
                int to = end;
                Twins.changesNothing("noise of " + n, () -> Twins.busy(2), x -> x.noise(to, 0x01020304, n), -1);
                Twins.changesNothing("noise of " + n, () -> Twins.busy(1), x -> x.noise(to, 0, n), -1);
            }
        }
    }

    /** "NONE, doing nothing: .. no FRAME" */
    private static void carryOfNoFrame() {
        Twins.Make make = () -> {
            SerialLink x = three();
            x.noise(0, 5, 1);
            return x;
        };
        for (int how = -1; how < 7; how++) {
            for (int arg : new int[] {0, 1, 256, -1}) {
                int by = how;
                Twins.changesNothing("carry(1, " + how + ", " + arg + ")", make, x -> x.carry(1, by, arg), -1);
            }
        }
        // When the last one has gone there is none, too.
        for (int how : new int[] {0, 1, 3, 4, 5}) {
            SerialLink x = three();
            Due.is("carry " + how, x.carry(0, how, 0), 2);
            Due.is("carry " + how, x.carry(0, how, 0), 1);
            Due.is("carry " + how, x.carry(0, how, 0), 0);
            Due.is("carry " + how + " of none", x.carry(0, how, 0), -1);
            Due.is("carry 2 of none", x.carry(0, 2, 0), -1);
        }
    }

    /** "NONE, doing nothing: another how" */
    private static void carryAnotherHow() {
        for (int how : new int[] {-1, 6, 7, Integer.MAX_VALUE, Integer.MIN_VALUE}) {
            for (int mode = 0; mode < 3; mode++) {
                int of = mode;
                for (int line = 0; line < 2; line++) {
                    int by = line;
                    Twins.changesNothing("carry how " + how, () -> Twins.full(of), x -> x.carry(by, how, 0), -1);
                }
            }
        }
        // What 0, 1, 2, 5 do with an arg is free of it, but for 5's lowest bits.
        for (int how : new int[] {0, 1, 2}) {
            for (int arg : new int[] {-1, 99999, Integer.MIN_VALUE, Integer.MAX_VALUE}) {
                SerialLink x = three();
                SerialLink y = three();
                Due.is("arg " + arg, x.carry(0, how, arg), how == 2 ? 3 : 2);
                y.carry(0, how, 0);
                Twins.same("carry " + how + " with arg " + arg, x, y);
            }
        }
    }

    /** "3 byte arg / 256 of it (the 0 behind it too) becomes that ^ arg % 256, and it is heard" */
    private static void carryChangesAnyByte() {
        int length = three().frame(0, 0, 0);
        for (int at = 0; at < length; at++) {
            for (int change : new int[] {0, 1, 128, 255}) {
                SerialLink x = three();
                SerialLink y = three();
                int[] bytes = new int[length];
                for (int i = 0; i < length; i++) {
                    bytes[i] = x.octet(0, 0, i);
                }
                bytes[at] ^= change;
                Due.is("a byte changes", x.carry(0, 3, at * 256 + change), 2);
                Due.noise(y, 1, bytes);
                y.carry(0, 1, 0);
                String told = "byte " + at + " ^ " + change;
                Due.is(told + ", heard", x.state(1, 8), y.state(1, 8));
                Due.is(told + ", WRONG", x.count(7), y.count(7));
                Due.is(told + ", taken", x.state(1, 5), y.state(1, 5));
                Due.is(told + ", KNOWNS", x.line(1), y.line(1));
                Due.is(told + ", not lost", x.count(3), 0);
                if (at == length - 1 && change > 0) {
                    Due.is("the 0 behind it too", x.state(1, 8), length);
                }
                // As it was laid, if nothing was changed.
                Due.is(told + ", FORGED", x.count(8), 0);
            }
        }
    }

    /** "NONE, doing nothing: a byte that it has not (3 ..), arg below 0 (3 ..)" */
    private static void carryChangesAByteThatItHasNot() {
        int n = three().frame(0, 0, 0);
        int[] args = {256 * n, 256 * n + 1, 256 * n + 255, 256 * (n + 1), Integer.MAX_VALUE, -1, -255, -256, -257,
            -256 * n, Integer.MIN_VALUE};
        for (int arg : args) {
            Twins.changesNothing("carry(0, 3, " + arg + ")", EdgeHearTest::three, x -> x.carry(0, 3, arg), -1);
        }
        Due.is("the last byte it has", three().carry(0, 3, 256 * n - 1), 2);
        Due.is("the last byte it has", three().carry(0, 3, 256 * (n - 1)), 2);
        Due.is("the first byte", three().carry(0, 3, 0), 2);
    }

    /** "4 its bytes from arg on are lost, the others heard" */
    private static void carryLosesFromAnyByteOn() {
        int n = three().frame(0, 0, 0);
        for (int arg = 0; arg < n; arg++) {
            SerialLink x = three();
            Due.is("carry(0, 4, " + arg + ")", x.carry(0, 4, arg), 2);
            Due.is("heard", x.state(1, 8), arg);
            Due.is("not ended", x.count(7) + x.count(4), 0);
            Due.is("bytes are lost, no FRAME", x.count(3), 0);
        }
    }

    /** "NONE, doing nothing: a byte that it has not (.. 4), arg below 0 (.. 4)" */
    private static void carryLosesFromAByteThatItHasNot() {
        int n = three().frame(0, 0, 0);
        for (int arg : new int[] {n, n + 1, 256, Integer.MAX_VALUE, -1, -n, Integer.MIN_VALUE}) {
            Twins.changesNothing("carry(0, 4, " + arg + ")", EdgeHearTest::three, x -> x.carry(0, 4, arg), -1);
        }
    }

    /** "5 a byte arg (its lowest 8 bits) is heard, then it" */
    private static void carryABytesLowestBits() {
        for (int arg : new int[] {0, 256, -256, Integer.MIN_VALUE}) {
            SerialLink x = three();
            x.noise(1, 9, 1);
            Due.is("a 0, then it", x.carry(0, 5, arg), 2);
            Due.is("the 0 ended what was there", x.count(7), 1);
            Due.takenIs("then it is taken", x, 1, Due.bytes(11, 12));
            Due.is("and CLEAN", x.count(8), 0);
        }
        for (int arg : new int[] {1, 255, 257, -1, Integer.MAX_VALUE}) {
            SerialLink x = three();
            SerialLink y = three();
            Due.is("a byte, then it", x.carry(0, 5, arg), 2);
            y.noise(1, arg, 1);
            y.carry(0, 0, 0);
            Twins.same("as a byte of noise, then it", x, y);
            Due.is("it is spoilt", three().carry(0, 5, arg), 2);
        }
    }

    /** "It is none of the LINE any more but by 2: how many FRAMES the LINE has then (KNOWNS .. on the other one)" */
    private static void carryHowManyThen() {
        for (int how = 0; how < 6; how++) {
            SerialLink x = three();
            int left = how == 2 ? 3 : 2;
            Due.is("carry " + how, x.carry(0, how, 0), left);
            Due.is("carry " + how + ", line", x.line(0), left);
            Due.is("carry " + how + ", the first one now", x.frame(0, 0, 2), how == 2 ? 0 : 1);
            int heard = how == 0 || how == 2 || how == 3 || how == 5 ? 1 : 0;
            Due.is("carry " + how + ", KNOWNS on the other", x.line(1), heard);
            Due.is("carry " + how + ", lost", x.count(3), how == 1 ? 1 : 0);
            Due.is("carry " + how + ", taken", x.count(4), heard);
        }
        // The other LINE may have FRAMES already; the answer is of this one.
        SerialLink x = three();
        x.carry(0, 0, 0);
        x.carry(0, 0, 0);
        Due.is("LINE 1 has two", x.line(1), 2);
        Due.is("of LINE 1", x.carry(1, 0, 0), 1);
        Due.is("of LINE 0", x.carry(0, 0, 0), 0);
        Due.is("of LINE 1", x.carry(1, 0, 0), 1);
        Due.is("of LINE 1", x.carry(1, 1, 0), 0);
        Due.is("the second KNOWN", x.state(0, 2), 2);
    }

    /** "2 it is heard, and stays": as often as one likes, and it is CLEAN each time */
    private static void carryStays() {
        SerialLink x = three();
        for (int i = 1; i <= 5; i++) {
            Due.is("it stays", x.carry(0, 2, 0), 3);
            Due.is("taken", x.count(4), i);
            Due.is("AGAIN but for the first", x.count(5), i - 1);
            Due.is("CLEAN", x.count(8), 0);
        }
        Due.takenIs("taken once", x, 1, Due.bytes(11, 12));
        x.carry(0, 0, 0);
        Due.is("then it goes", x.frame(0, 0, 2), 1);
    }

    /** "CLEAN is what is heard up to a 0, if these are all bytes of one FRAME as it was laid" */
    private static void cleanIsAllBytesOfOne() {
        SerialLink x = three();
        x.carry(0, 0, 0);
        x.carry(0, 2, 0);
        x.carry(0, 5, 0);
        x.carry(1, 0, 0);
        x.carry(0, 3, 5 * 256);
        Due.is("all taken", x.count(4), 5);
        Due.is("all CLEAN", x.count(8), 0);
        x.tick();
        Due.noise(x, 1, Due.framed(3, 9));
        Due.is("the same bytes, but of no FRAME", x.count(8), 1);
    }

    /** "and nothing else came since the 0 before" */
    private static void notCleanBehindOtherBytes() {
        // The CHECK of these with a 0 behind is 0: the CHECK of a body behind them is that of both.
        int[] ahead = Due.stuffed(0, 1, 90, 36, 90, 61);
        for (int byNoise = 0; byNoise < 2; byNoise++) {
            SerialLink x = opened(1, 8, 4, 20);
            Due.give(x, 0, Due.bytes(11, 12));
            x.tick();
            if (byNoise == 1) {
                Due.noise(x, 1, ahead);
                x.carry(0, 0, 0);
            } else {
                Due.noise(x, 1, Arrays.copyOf(ahead, ahead.length - 1));
                x.carry(0, 5, ahead[ahead.length - 1]);
            }
            Due.is("taken", x.count(4), 1);
            Due.is("FORGED", x.count(8), 1);
            Due.is("with what came ahead", x.state(1, 5), 9);
        }
    }

    /** Not all bytes of it: a part that is a body for itself, or its 0 lost and another in its place. */
    private static void notCleanInPart() {
        SerialLink x = three();
        x.carry(0, 4, x.frame(0, 0, 0) - 1);
        Due.is("not ended", x.count(4), 0);
        x.noise(1, 0, 1);
        Due.is("another 0", x.count(4), 1);
        Due.is("is FORGED", x.count(8), 1);
        x.carry(0, 4, x.frame(0, 0, 0) - 1);
        x.carry(0, 5, 0);
        Due.is("another 0, by carry", x.count(4), 3);
        Due.is("is FORGED, and the one behind is CLEAN", x.count(8), 2);
        Due.takenIs("all", x, 1, Due.bytes(11, 12, 13, 14, 15, 16));
        // All but the first byte are the FRAME's: that byte by noise makes it whole, but not CLEAN.
        int[] inner = Due.sealed(0, 11);
        SerialLink y = opened(1, 8, 4, 20);
        Due.give(y, 0, Due.join(Arrays.copyOfRange(inner, 1, inner.length), Due.bytes(0, 7)));
        y.tick();
        int at = Due.stuffed(inner).length;
        y.carry(0, 3, at * 256 + y.octet(0, 0, at));
        Due.is("a part of a FRAME", y.count(4), 1);
        Due.is("is FORGED", y.count(8), 1);
        Due.is("its rest is WRONG", y.count(7), 1);
    }

    private static void cleanBehindAZero() {
        for (int how : new int[] {0, 2, 5}) {
            SerialLink x = three();
            x.noise(1, 0x05060700, 4);
            x.carry(0, how, 0);
            Due.is("taken", x.count(4), 1);
            Due.is("CLEAN", x.count(8), 0);
        }
    }

    /** Behind more than 120 bytes nothing is CLEAN up to the next 0, and then it is again. */
    private static void cleanBehindTooMany() {
        for (int n : new int[] {119, 120, 121, 200}) {
            SerialLink x = three();
            Due.noise(x, 1, Due.full(n, 99));
            x.carry(0, 0, 0);
            Due.is("kind 5", x.count(15), 1);
            Due.is("not taken", x.count(4), 0);
            x.carry(0, 2, 0);
            Due.is("the next one is taken", x.count(4), 1);
            Due.is("and CLEAN", x.count(8), 0);
        }
    }

    /** "FORGED counts those that were taken without being CLEAN": WRONG ones not, AGAIN and OLD ones too. */
    private static void forgedAreTaken() {
        SerialLink x = three();
        Due.noise(x, 1, Due.bytes(9, 0));
        Due.is("WRONG is not FORGED", x.count(8), 0);
        Due.noise(x, 1, Due.framed(5, 1));
        Due.is("AGAIN, FORGED", x.count(8) * 10 + x.count(5), 11);
        Due.noise(x, 0, Due.framed(64 + 7));
        Due.is("OLD, FORGED", x.count(8) * 10 + x.count(6), 21);
        Due.noise(x, 1, Due.framed(0, 1));
        Due.is("TAKEN, FORGED", x.count(8) * 10 + x.state(1, 5), 31);
        Due.noise(x, 0, Due.framed(64 + 1));
        Due.is("KNOWN, FORGED", x.count(8) * 10 + x.state(0, 2), 41);
        Due.is("all of them were taken", x.count(4), 4);
        x.carry(0, 0, 0);
        Due.is("AGAIN, CLEAN", x.count(8) * 10 + x.count(5), 42);
    }
}
