import java.util.Arrays;

/**
 * The edges of the tape and of OUT: promises 3 feed, 4 cut, 5 take, 6 give, 17 stuff, 18 unstuff, 19 fault,
 * 20 check, 21 out, and of the terms CHECK, STUFFED, UNSTUFFED, FAULTS.
 */
public final class EdgeTapeTest {
    public static void main(String[] args) {
        feedHighestFirst();
        feedUpTo1200();
        feedAbove1200();
        cutHasTheFirstAlone();
        cutOfMoreThanThereAre();
        takeOfAnyOut();
        takeOf1200AtMost();
        giveGoesBehind();
        giveUpTo3000();
        giveAbove3000();
        cutBehindEachZero();
        cutBehindEach254();
        countedFromACutOn();
        stuffWithoutAZeroBehind();
        codeTellsItsBytes();
        lastZeroIsLeftOut();
        tooFewBehindACode();
        aZeroAmongThese();
        aZeroInItsPlace();
        tooFewAheadOfAZero();
        noBytes();
        lastCodeIs255();
        outStaysWithAFault();
        faultOfTheLatest();
        checkBitByBit();
        checkOfAnyLength();
        outOfAnyIndex();
        Due.end("EdgeTapeTest");
    }

    /** An object with these bytes on the tape, and 2 5 in OUT. */
    private static SerialLink with(int[] tape) {
        SerialLink x = new SerialLink();
        Due.tape(x, Due.bytes(5));
        x.stuff();
        Due.tape(x, tape);
        return x;
    }

    private static void tapeIs(String call, SerialLink x, int[] want) {
        Due.is(call + ", the tape has not more", x.cut(want.length + 1), false);
        Due.is(call + ", the tape has so many", x.cut(want.length), true);
        Due.is(call + ", the tape's bytes", x.stuff(), Due.stuffed(want).length);
        Due.outIs(call + ", the tape's bytes", x, Due.stuffed(want));
    }

    /** "of each number the highest first" */
    private static void feedHighestFirst() {
        SerialLink x = new SerialLink();
        x.feed(0x01020304, 0x05060708, 0x090A0B0C, 0x0D0E0F10, 0x11121314);
        int[] want = new int[40];
        for (int i = 0; i < 20; i++) {
            want[i] = i + 1;
        }
        x.feed(0xFF000000, 0x00FE0000, 0x0000FD00, 0x000000FC, 0x80808080);
        int[] behind = {255, 0, 0, 0, 0, 254, 0, 0, 0, 0, 253, 0, 0, 0, 0, 252, 128, 128, 128, 128};
        System.arraycopy(behind, 0, want, 20, 20);
        tapeIs("feed", x, want);
    }

    /** "how many there are": up to 1200 */
    private static void feedUpTo1200() {
        SerialLink x = new SerialLink();
        for (int n = 20; n <= 1200; n += 20) {
            Due.is("feed", x.feed(n, n, n, n, n), n);
        }
        Due.is("1200 are there", x.cut(1200), true);
        x = with(new int[1180]);
        Due.is("feed behind 1180", x.feed(1, 2, 3, 4, 5), 1200);
        x = with(new int[1179]);
        Due.is("feed behind 1179", x.feed(1, 2, 3, 4, 5), 1199);
        x = with(new int[0]);
        Due.is("feed behind none", x.feed(1, 2, 3, 4, 5), 20);
    }

    /** "NONE, doing nothing, if there would be more than 1200" */
    private static void feedAbove1200() {
        for (int n : new int[] {1181, 1182, 1199, 1200}) {
            int[] bytes = Due.full(n, 5);
            Twins.changesNothing("feed behind " + n, () -> with(bytes), x -> x.feed(1, 2, 3, 4, 5), -1);
            SerialLink x = with(bytes);
            x.feed(1, 2, 3, 4, 5);
            tapeIs("feed behind " + n, x, bytes);
        }
    }

    /** "The tape has its first n bytes alone" */
    private static void cutHasTheFirstAlone() {
        int[] bytes = Due.full(1200, 5);
        for (int n : new int[] {0, 1, 2, 254, 1199, 1200}) {
            SerialLink x = with(bytes);
            Due.is("cut(" + n + ")", x.cut(n), true);
            tapeIs("cut(" + n + ")", x, Arrays.copyOf(bytes, n));
        }
        // What was cut off does not come back.
        SerialLink x = with(bytes);
        x.cut(3);
        Due.is("feed behind a cut", x.feed(0, 0, 0, 0, 0), 23);
        tapeIs("feed behind a cut", x, Arrays.copyOf(Arrays.copyOf(bytes, 3), 23));
        Twins.changesNothing("cut of as many as there are", () -> with(Due.bytes(1, 2, 3)), y -> y.cut(3) ? 1 : 0, 1);
        Twins.changesNothing("cut(0) of none", SerialLink::new, y -> y.cut(0) ? 1 : 0, 1);
    }

    /** "false, doing nothing, if it has not so many, or n is below 0" */
    private static void cutOfMoreThanThereAre() {
        for (int n : new int[] {0, 1, 20, 1199, 1200}) {
            for (int more : new int[] {n + 1, n + 2, 1201, Integer.MAX_VALUE, -1, -n - 1, Integer.MIN_VALUE}) {
                Twins.changesNothing("cut(" + more + ") of " + n, () -> with(Due.full(n, 0)),
                        x -> x.cut(more) ? 1 : 0, 0);
            }
        }
    }

    /** "The tape has what OUT has": what it had goes, OUT stays. */
    private static void takeOfAnyOut() {
        SerialLink x = new SerialLink();
        Due.tape(x, Due.bytes(7, 8));
        Due.is("take of an empty OUT", x.take(), 0);
        tapeIs("take of an empty OUT", x, Due.bytes());
        x = with(Due.full(900, 0));
        Due.is("take", x.take(), 2);
        Due.outIs("take, OUT stays", x, Due.bytes(2, 5));
        tapeIs("take", x, Due.bytes(2, 5));
        x = with(Due.bytes());
        Due.is("take to an empty tape", x.take(), 2);
        tapeIs("take to an empty tape", x, Due.bytes(2, 5));
        // OUT is made empty by unstuffing one CODE.
        x = with(Due.bytes(1));
        Due.is("unstuff of one CODE", x.unstuff(), 0);
        Due.tape(x, Due.bytes(7, 8));
        Due.is("take of an OUT that has become empty", x.take(), 0);
        tapeIs("take of an OUT that has become empty", x, Due.bytes());
    }

    /** "(1200 bytes at most)": OUT has 1199 .. 1205 */
    private static void takeOf1200AtMost() {
        for (int n = 1194; n <= 1200; n++) {
            int[] bytes = Due.full(n, 9);
            SerialLink x = with(bytes);
            int stuffed = n + 5;
            Due.is("stuff of " + n, x.stuff(), stuffed);
            Due.tape(x, Due.full(33, 0));
            int taken = Math.min(1200, stuffed);
            Due.is("take of " + stuffed, x.take(), taken);
            Due.outIs("take of " + stuffed + ", OUT stays", x, Due.stuffed(bytes));
            tapeIs("take of " + stuffed, x, Arrays.copyOf(Due.stuffed(bytes), taken));
        }
    }

    /** "given to an end behind those it has: how many it has then", "(they go)" */
    private static void giveGoesBehind() {
        SerialLink x = with(Due.bytes());
        Due.is("give of none", x.give(0), 0);
        for (int end = 0; end < 2; end++) {
            Due.tape(x, Due.bytes(10 + end));
            Due.is("give of one", x.give(end), 1);
            Due.is("the tape's bytes go", x.cut(1), false);
            Due.is("give of none", x.give(end), 1);
            Due.tape(x, Due.bytes(20 + end, 30 + end));
            Due.is("give behind one", x.give(end), 3);
        }
        x.round();
        Due.takenIs("end 0 was given", x, 1, Due.bytes(10, 20, 30));
        Due.takenIs("end 1 was given", x, 0, Due.bytes(11, 21, 31));
    }

    private static SerialLink given(int end, int n) {
        SerialLink x = with(Due.bytes());
        for (int left = n; left > 0; left -= 1200) {
            Due.give(x, end, Due.full(Math.min(left, 1200), 0));
        }
        Due.is("given", x.state(end, 0), n);
        return x;
    }

    /** "how many it has then": up to 3000 */
    private static void giveUpTo3000() {
        int[][] pairs = {{2999, 1}, {2998, 1}, {1800, 1200}, {2400, 600}, {3000, 0}, {2999, 0}, {0, 1200}};
        for (int end = 0; end < 2; end++) {
            for (int[] p : pairs) {
                SerialLink x = given(end, p[0]);
                Due.tape(x, Due.full(p[1], 0));
                Due.is("give of " + p[1] + " behind " + p[0], x.give(end), p[0] + p[1]);
                Due.is("given", x.state(end, 0), p[0] + p[1]);
                Due.is("not to the other", x.state(1 - end, 0), 0);
                Due.is("they go", x.cut(1), false);
            }
        }
    }

    /** "NONE, and they stay, if there would be more than 3000" */
    private static void giveAbove3000() {
        int[][] pairs = {{3000, 1}, {2999, 2}, {1801, 1200}, {3000, 1200}, {2401, 600}};
        for (int end = 0; end < 2; end++) {
            int to = end;
            for (int[] p : pairs) {
                Twins.Make make = () -> {
                    SerialLink x = given(to, p[0]);
                    Due.tape(x, Due.full(p[1], 0));
                    return x;
                };
                Twins.changesNothing("give of " + p[1] + " behind " + p[0], make, x -> x.give(to), -1);
                SerialLink x = make.make();
                x.give(to);
                Due.is("they stay for the other", x.give(1 - to), p[1]);
            }
        }
    }

    private static void stuffs(String what, int[] plain, int... want) {
        SerialLink x = with(plain);
        Due.is("stuff of " + what, x.stuff(), want.length);
        Due.outIs("stuff of " + what, x, want);
        Due.is("stuff of " + what + ", the tape goes", x.cut(1), false);
        // And back again.
        x.take();
        if (want.length <= 1200) {
            Due.is("unstuff, " + what, x.unstuff(), plain.length);
            Due.outIs("unstuff, " + what, x, plain);
            Due.is("unstuff, " + what + ", no FAULT", x.fault(0), 0);
            Due.is("unstuff, " + what + ", no place", x.fault(1), -1);
        }
    }

    /** "a 0 is put behind the bytes; these are cut behind each 0" */
    private static void cutBehindEachZero() {
        stuffs("none", Due.bytes(), 1);
        stuffs("0", Due.bytes(0), 1, 1);
        stuffs("0 0", Due.bytes(0, 0), 1, 1, 1);
        stuffs("1", Due.bytes(1), 2, 1);
        stuffs("255", Due.bytes(255), 2, 255);
        stuffs("1 0", Due.bytes(1, 0), 2, 1, 1);
        stuffs("0 1", Due.bytes(0, 1), 1, 2, 1);
        stuffs("1 0 1", Due.bytes(1, 0, 1), 2, 1, 2, 1);
        stuffs("1 0 0 1", Due.bytes(1, 0, 0, 1), 2, 1, 1, 2, 1);
        int[] ones = new int[1201];
        Arrays.fill(ones, 1);
        SerialLink x = with(new int[1200]);
        Due.is("stuff of 1200 times 0", x.stuff(), 1201);
        Due.outIs("stuff of 1200 times 0", x, ones);
    }

    private static int[] row(int code, int[] bytes) {
        return Due.join(Due.bytes(code), bytes);
    }

    /** "and behind each 254 bytes in a row that are not 0", "255 of a piece of 254 without its 0" */
    private static void cutBehindEach254() {
        int[] r252 = Due.full(252, 3);
        int[] r253 = Due.full(253, 3);
        int[] r254 = Due.full(254, 3);
        int[] zero = {0};
        int[] one = {1};
        stuffs("252", r252, row(253, r252));
        stuffs("252, 0", Due.join(r252, zero), Due.join(row(253, r252), one));
        stuffs("253", r253, row(254, r253));
        stuffs("253, 0", Due.join(r253, zero), Due.join(row(254, r253), one));
        stuffs("253, 0, 1", Due.join(r253, zero, one), Due.join(row(254, r253), Due.bytes(2, 1)));
        stuffs("254", r254, Due.join(row(255, r254), one));
        stuffs("254, 0", Due.join(r254, zero), Due.join(row(255, r254), one, one));
        stuffs("254, 0, 0", Due.join(r254, zero, zero), Due.join(row(255, r254), one, one, one));
        stuffs("254, 1", Due.join(r254, one), Due.join(row(255, r254), Due.bytes(2, 1)));
        stuffs("254, 1, 0", Due.join(r254, one, zero), Due.join(row(255, r254), Due.bytes(2, 1, 1)));
        stuffs("254, 253", Due.join(r254, r253), Due.join(row(255, r254), row(254, r253)));
        stuffs("254, 254", Due.join(r254, r254), Due.join(row(255, r254), row(255, r254), one));
        stuffs("254, 254, 0", Due.join(r254, r254, zero), Due.join(row(255, r254), row(255, r254), one, one));
        stuffs("4 times 254", Due.join(r254, r254, r254, r254),
                Due.join(row(255, r254), row(255, r254), row(255, r254), row(255, r254), one));
        int[] all = Due.full(1200, 3);
        SerialLink x = with(all);
        Due.is("stuff of 1200", x.stuff(), 1205);
        Due.outIs("stuff of 1200", x, Due.join(row(255, Arrays.copyOfRange(all, 0, 254)),
                row(255, Arrays.copyOfRange(all, 254, 508)), row(255, Arrays.copyOfRange(all, 508, 762)),
                row(255, Arrays.copyOfRange(all, 762, 1016)), row(185, Arrays.copyOfRange(all, 1016, 1200))));
    }

    /** "(.. counted from a cut on)" */
    private static void countedFromACutOn() {
        int[] r100 = Due.full(100, 3);
        int[] r253 = Due.full(253, 3);
        int[] r254 = Due.full(254, 3);
        int[] zero = {0};
        int[] one = {1};
        stuffs("100, 0, 253", Due.join(r100, zero, r253), Due.join(row(101, r100), row(254, r253)));
        stuffs("100, 0, 254", Due.join(r100, zero, r254), Due.join(row(101, r100), row(255, r254), one));
        stuffs("0, 254", Due.join(zero, r254), Due.join(one, row(255, r254), one));
        stuffs("0, 253", Due.join(zero, r253), Due.join(one, row(254, r253)));
        stuffs("254, 0, 254", Due.join(r254, zero, r254), Due.join(row(255, r254), one, row(255, r254), one));
        stuffs("254, 100, 0, 254", Due.join(r254, r100, zero, r254),
                Due.join(row(255, r254), row(101, r100), row(255, r254), one));
        stuffs("253, 0, 253", Due.join(r253, zero, r253), Due.join(row(254, r253), row(254, r253)));
    }

    /** "OUT is that (without a 0 behind)": no 0 is in it at all, whatever was on the tape. */
    private static void stuffWithoutAZeroBehind() {
        for (int n : new int[] {0, 1, 253, 254, 255, 508, 1200}) {
            for (int every : new int[] {1, 2, 254, 255, 2000}) {
                int[] bytes = Due.full(n, n);
                for (int i = every - 1; i < n; i += every) {
                    bytes[i] = 0;
                }
                SerialLink x = with(bytes);
                int stuffed = x.stuff();
                Due.is("stuff", stuffed, Due.stuffed(bytes).length);
                int zeros = 0;
                for (int i = 0; i < stuffed; i++) {
                    zeros += x.out(i) == 0 ? 1 : 0;
                }
                Due.is("no zero is in it", zeros, 0);
                Due.is("none behind it", x.out(stuffed), -1);
            }
        }
    }

    private static void unstuffs(String what, int[] stuffed, int... want) {
        SerialLink x = with(stuffed);
        Due.is("unstuff of " + what, x.unstuff(), want.length);
        Due.outIs("unstuff of " + what, x, want);
        Due.is("unstuff of " + what + ", the tape goes", x.cut(1), false);
        Due.is("unstuff of " + what + ", no FAULT", x.fault(0), 0);
        Due.is("unstuff of " + what + ", no place", x.fault(1), -1);
    }

    /** "1 to 255, as many bytes as it tells less 1 (none is 0), and a 0, but for 255" */
    private static void codeTellsItsBytes() {
        int[] zero = {0};
        for (int code = 1; code <= 255; code++) {
            int[] bytes = Due.full(code - 1, code);
            unstuffs("CODE " + code + ", CODE 1", Due.join(row(code, bytes), Due.bytes(1)),
                    code == 255 ? bytes : Due.join(bytes, zero));
            unstuffs("CODE " + code + ", CODE 2", Due.join(row(code, bytes), Due.bytes(2, 7)),
                    Due.join(bytes, code == 255 ? Due.bytes(7) : Due.bytes(0, 7)));
        }
        int[] r254 = Due.full(254, 9);
        unstuffs("255, 255, 1", Due.join(row(255, r254), row(255, r254), Due.bytes(1)), Due.join(r254, r254));
        unstuffs("255, 1, 1", Due.join(row(255, r254), Due.bytes(1, 1)), Due.join(r254, zero));
        unstuffs("1, 255, 1", Due.join(Due.bytes(1), row(255, r254), Due.bytes(1)), Due.join(zero, r254));
    }

    /** "the last 0 is left out" */
    private static void lastZeroIsLeftOut() {
        unstuffs("1", Due.bytes(1));
        unstuffs("1 1", Due.bytes(1, 1), 0);
        unstuffs("2 7", Due.bytes(2, 7), 7);
        unstuffs("2 7 1", Due.bytes(2, 7, 1), 7, 0);
        int[] r253 = Due.full(253, 9);
        unstuffs("254", row(254, r253), r253);
        int[] ones = new int[1200];
        Arrays.fill(ones, 1);
        unstuffs("1200 times CODE 1", ones, new int[1199]);
        int[] r254 = Due.full(254, 9);
        int[] last = Due.full(179, 40);
        unstuffs("1200 in all", Due.join(row(255, r254), row(255, r254), row(255, r254), row(255, r254),
                row(180, last)), Due.join(r254, r254, r254, r254, last));
    }

    private static void faulty(String what, int[] stuffed, int kind, int place) {
        SerialLink x = with(stuffed);
        Due.is("unstuff of " + what, x.unstuff(), -1);
        Due.is("FAULT of " + what, x.fault(0), kind);
        Due.is("place of " + what, x.fault(1), place);
        Due.outIs("OUT stays by " + what, x, Due.bytes(2, 5));
        Due.is("the tape goes by " + what, x.cut(1), false);
    }

    /** "1 a CODE with fewer bytes behind it": its place is the CODE */
    private static void tooFewBehindACode() {
        faulty("2", Due.bytes(2), 1, 0);
        faulty("255", Due.bytes(255), 1, 0);
        for (int code = 2; code <= 255; code++) {
            faulty("CODE " + code + " with one too few", row(code, Due.full(code - 2, code)), 1, 0);
            faulty("1, CODE " + code + " with one too few",
                    Due.join(Due.bytes(1), row(code, Due.full(code - 2, code))), 1, 1);
        }
        faulty("2 7 3 7", Due.bytes(2, 7, 3, 7), 1, 2);
        int[] r254 = Due.full(254, 9);
        faulty("255, 2", Due.join(row(255, r254), Due.bytes(2)), 1, 255);
        int[] ones = new int[1200];
        Arrays.fill(ones, 1);
        ones[1199] = 2;
        faulty("1199 times 1, then 2", ones, 1, 1199);
        ones[1199] = 1;
        ones[1198] = 3;
        faulty("1198 times 1, then 3 1", ones, 1, 1198);
    }

    /** "else a 0 among these": its place is the 0 */
    private static void aZeroAmongThese() {
        for (int code : new int[] {2, 3, 4, 254, 255}) {
            for (int at : new int[] {1, code / 2, code - 1}) {
                int[] bytes = row(code, Due.full(code - 1, 0));
                bytes[at] = 0;
                faulty("CODE " + code + ", 0 at " + at, Due.join(bytes, Due.bytes(1)), 1, at);
                faulty("CODE " + code + " alone, 0 at " + at, bytes, 1, at);
                faulty("1, CODE " + code + ", 0 at " + at, Due.join(Due.bytes(1), bytes), 1, at + 1);
            }
        }
        faulty("two of them, the first", Due.bytes(4, 7, 0, 0, 1), 1, 2);
        faulty("ahead of a CODE with fewer", Due.bytes(3, 7, 0, 9), 1, 2);
        faulty("ahead of a 0 in place of a CODE", Due.bytes(3, 7, 0, 0), 1, 2);
    }

    /** "or in its place": its place is the 0 */
    private static void aZeroInItsPlace() {
        faulty("0", Due.bytes(0), 1, 0);
        faulty("0 0", Due.bytes(0, 0), 1, 0);
        faulty("1 0", Due.bytes(1, 0), 1, 1);
        faulty("0 9", Due.bytes(0, 9), 1, 0);
        faulty("2 7 0", Due.bytes(2, 7, 0), 1, 2);
        faulty("2 7 0 9", Due.bytes(2, 7, 0, 9), 1, 2);
        int[] r254 = Due.full(254, 9);
        faulty("255, 0", Due.join(row(255, r254), Due.bytes(0)), 1, 255);
        int[] ones = new int[1200];
        Arrays.fill(ones, 1);
        ones[1199] = 0;
        faulty("1199 times 1, then 0", ones, 1, 1199);
    }

    /** "1 a CODE with fewer bytes behind it, else a 0 among these": of one CODE both, the CODE is told */
    private static void tooFewAheadOfAZero() {
        faulty("3 0", Due.bytes(3, 0), 1, 0);
        faulty("255 0 0", Due.bytes(255, 0, 0), 1, 0);
        faulty("1 4 9 0", Due.bytes(1, 4, 9, 0), 1, 1);
        faulty("3 9 0, enough", Due.bytes(3, 9, 0), 1, 2);
    }

    /** "2 there are no bytes": "of 2 how many bytes there are" */
    private static void noBytes() {
        faulty("none", Due.bytes(), 2, 0);
        SerialLink x = new SerialLink();
        Due.is("unstuff of a new object", x.unstuff(), -1);
        Due.is("its FAULT", x.fault(0), 2);
        Due.is("its place", x.fault(1), 0);
    }

    /** "or the last CODE is 255": "of 2 how many bytes there are" */
    private static void lastCodeIs255() {
        int[] r254 = Due.full(254, 9);
        faulty("255", row(255, r254), 2, 255);
        faulty("255, 255", Due.join(row(255, r254), row(255, r254)), 2, 510);
        faulty("1, 255", Due.join(Due.bytes(1), row(255, r254)), 2, 256);
        faulty("4 times 255, at 1200", Due.join(new int[0], full180(), row(255, r254), row(255, r254),
                row(255, r254), row(255, r254)), 2, 1200);
        faulty("255 with one too few", row(255, Due.full(253, 9)), 1, 0);
        unstuffs("254, the last", row(254, Due.full(253, 9)), Due.full(253, 9));
    }

    private static int[] full180() {
        return row(180, Due.full(179, 3));
    }

    /** "NONE with a FAULT (OUT stays)": an OUT of any length */
    private static void outStaysWithAFault() {
        SerialLink x = new SerialLink();
        x.unstuff();
        Due.outIs("an empty OUT stays", x, Due.bytes());
        int[] all = Due.full(1200, 0);
        Due.tape(x, all);
        x.stuff();
        Due.tape(x, Due.bytes(4, 1, 2, 0));
        Due.is("unstuff with a FAULT", x.unstuff(), -1);
        Due.outIs("a full OUT stays", x, Due.stuffed(all));
        Due.is("the tape goes", x.check(), 0);
    }

    /** "Of the latest unstuff()", "(what 0; 0 without, or ahead of any)", "NONE without", "NONE for another what" */
    private static void faultOfTheLatest() {
        SerialLink x = new SerialLink();
        Due.is("ahead of any, fault(0)", x.fault(0), 0);
        Due.is("ahead of any, fault(1)", x.fault(1), -1);
        Due.tape(x, Due.bytes(1, 0));
        x.unstuff();
        x.stuff();
        x.take();
        x.check();
        x.feed(0, 0, 0, 0, 0);
        x.give(0);
        x.round();
        Due.noise(x, 0, Due.bytes(1, 9, 9, 0, 1, 1, 0));
        Due.is("the latest, fault(0)", x.fault(0), 1);
        Due.is("the latest, fault(1)", x.fault(1), 1);
        for (int what : new int[] {-1, 2, 3, Integer.MAX_VALUE, Integer.MIN_VALUE}) {
            Due.is("fault(" + what + ") with a FAULT", x.fault(what), -1);
            Due.is("fault(" + what + ") ahead of any", new SerialLink().fault(what), -1);
            Twins.changesNothing("fault(" + what + ")", () -> Twins.busy(2), y -> y.fault(what), -1);
        }
        x.unstuff();
        Due.is("the next one's FAULT", x.fault(0), 2);
        Due.is("the next one's place", x.fault(1), 0);
        Due.tape(x, Due.bytes(1));
        x.unstuff();
        Due.is("without, fault(0)", x.fault(0), 0);
        Due.is("without, fault(1)", x.fault(1), -1);
        Due.is("without, fault(2)", x.fault(2), -1);
    }

    /** "c is -1 at first .. c >>> 1, with ^ 0xEDB88320 if the bit that went was 1; it is c ^ -1 in the end" */
    private static void checkBitByBit() {
        for (int b = 0; b < 256; b++) {
            SerialLink x = with(Due.bytes(b));
            Due.is("CHECK of " + b, x.check(), Due.crc(Due.bytes(b)));
        }
        Due.is("CHECK of 123456789", with(Due.bytes(49, 50, 51, 52, 53, 54, 55, 56, 57)).check(), 0xCBF43926);
        Due.is("CHECK of four times 255", with(Due.bytes(255, 255, 255, 255)).check(), -1);
        Due.is("CHECK of four times 0", with(Due.bytes(0, 0, 0, 0)).check(), 0x2144DF1C);
    }

    /** "The CHECK of the tape's bytes (they go)": of none, too */
    private static void checkOfAnyLength() {
        SerialLink x = with(Due.bytes());
        Due.is("CHECK of none", x.check(), 0);
        Due.outIs("OUT stays", x, Due.bytes(2, 5));
        for (int n : new int[] {1, 2, 4, 5, 119, 120, 121, 255, 256, 1199, 1200}) {
            int[] bytes = Due.full(n, n);
            Due.tape(x, bytes);
            Due.is("CHECK of " + n, x.check(), Due.crc(bytes));
            Due.is("they go", x.cut(1), false);
            Due.is("CHECK of none then", x.check(), 0);
        }
        Due.outIs("OUT stays", x, Due.bytes(2, 5));
    }

    /** "Byte i of OUT; NONE if there is none such" */
    private static void outOfAnyIndex() {
        SerialLink x = new SerialLink();
        int[] wild = {-1, Integer.MIN_VALUE, Integer.MAX_VALUE, 1205, 1206};
        for (int i : wild) {
            Due.is("out(" + i + ") of an empty OUT", x.out(i), -1);
        }
        Due.is("out(0) of an empty OUT", x.out(0), -1);
        x = with(Due.full(1200, 3));
        x.stuff();
        for (int i : wild) {
            Due.is("out(" + i + ") of a full OUT", x.out(i), -1);
        }
        Due.is("the first", x.out(0), 255);
        Due.is("the last", x.out(1204), Due.full(1200, 3)[1199]);
        // A shorter OUT has nothing of a longer one behind it.
        Due.tape(x, Due.bytes(128));
        x.stuff();
        Due.outIs("a shorter OUT", x, Due.bytes(2, 128));
        Due.is("what was there is gone", x.out(2), -1);
        Twins.changesNothing("out", () -> Twins.busy(2), y -> y.out(0), 2);
        Twins.changesNothing("out behind the last", () -> Twins.busy(2), y -> y.out(4), -1);
    }
}
