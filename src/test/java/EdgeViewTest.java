/** The edges of promises 11 frame, 12 octet, 13 line, 14 state, 15 taken, 16 count. */
public final class EdgeViewTest {
    private static final int[] WILD = {-1, Integer.MIN_VALUE, Integer.MAX_VALUE, 99, 1 << 16};

    public static void main(String[] args) {
        frameOfOthers();
        frameThatIsNone();
        framesOfAFullLine();
        frameOfTheHighestNumber();
        frameOfShortestAndLongest();
        frameLaidBefore();
        octetOfAnyIndex();
        octetOfNoFrame();
        lineHowMany();
        stateOfOthers();
        stateGiven();
        stateInPieces();
        stateHeard();
        stateHeldAndKept();
        takenOfAnyIndex();
        countOfOthers();
        countOfEach();
        countAtATime();
        askingChangesNothing();
        Due.end("EdgeViewTest");
    }

    private static SerialLink opened(int mode, int space, int window, int size, int timeout, int given) {
        SerialLink x = new SerialLink();
        Due.is("open", x.open(mode, space, window, size, timeout), true);
        Due.give(x, 0, Due.full(given, 0));
        return x;
    }

    /** "NONE for others" */
    private static void frameOfOthers() {
        SerialLink x = opened(1, 8, 4, 5, 1, 20);
        x.tick();
        x.carry(0, 0, 0);
        for (int line = 0; line < 2; line++) {
            for (int what : new int[] {5, 6, -1, -2, Integer.MAX_VALUE, Integer.MIN_VALUE}) {
                Due.is("frame(" + line + ", 0, " + what + ")", x.frame(line, 0, what), -1);
            }
            for (int what = 0; what < 5; what++) {
                Due.is("frame(" + line + ", 0, " + what + ") is there", x.frame(line, 0, what) >= 0, true);
            }
        }
    }

    /** "or if there is none such" */
    private static void frameThatIsNone() {
        for (int frames = 0; frames <= 3; frames++) {
            SerialLink x = opened(1, 8, 4, 5, 1, 5 * frames);
            x.tick();
            for (int what = -1; what < 6; what++) {
                Due.is("behind the last", x.frame(0, frames, what), -1);
                Due.is("ahead of the first", x.frame(0, -1, what), -1);
                Due.is("of the other LINE", x.frame(1, 0, what), -1);
                for (int k : WILD) {
                    Due.is("frame(0, " + k + ")", x.frame(0, k, what), -1);
                }
            }
            Due.is("the last", x.frame(0, frames - 1, 2), frames - 1);
        }
        // One that has gone is none any more.
        SerialLink x = opened(1, 8, 4, 5, 1, 5);
        x.tick();
        x.carry(0, 1, 0);
        Due.is("it has gone", x.frame(0, 0, 0), -1);
        Due.is("its bytes, too", x.octet(0, 0, 0), -1);
    }

    /** "FRAME k (0 the first one)": 0 .. 39 of a full LINE */
    private static void framesOfAFullLine() {
        SerialLink x = opened(1, 64, 63, 1, 50, 63);
        x.tick();
        Due.is("the first", x.frame(0, 0, 2), 0);
        Due.is("the last", x.frame(0, 39, 2), 39);
        Due.is("no other", x.frame(0, 40, 2), -1);
        Due.is("no other", x.frame(0, 41, 2), -1);
        Due.is("its bytes", x.octet(0, 40, 0), -1);
        for (int gone = 1; gone <= 40; gone++) {
            x.carry(0, 1, 0);
            Due.is("the first now", x.frame(0, 0, 2), gone < 40 ? gone : -1);
            Due.is("the last now", x.frame(0, 39 - gone, 2), gone < 40 ? 39 : -1);
            Due.is("none behind it", x.frame(0, 40 - gone, 2), -1);
        }
    }

    /** "1 its sort, 2 its number": of the highest number, too */
    private static void frameOfTheHighestNumber() {
        SerialLink x = opened(1, 64, 1, 1, 50, 130);
        for (int piece = 0; piece < 130; piece++) {
            x.tick();
            Due.is("sort of DATA", x.frame(0, 0, 1), 0);
            Due.is("number of DATA", x.frame(0, 0, 2), piece % 64);
            Due.frameIs("DATA", x, 0, 0, Due.framed(piece % 64, Due.full(130, 0)[piece]));
            x.carry(0, 0, 0);
            int known = (piece + 1) % 64;
            Due.is("sort of a KNOWN", x.frame(1, 0, 1), 1);
            Due.is("number of a KNOWN", x.frame(1, 0, 2), known);
            Due.frameIs("a KNOWN", x, 1, 0, Due.framed(64 + known));
            x.carry(1, 0, 0);
        }
    }

    /** "0 its bytes .. 3 bytes of its LOAD" */
    private static void frameOfShortestAndLongest() {
        for (int size : new int[] {1, 2, 59, 60}) {
            SerialLink x = opened(2, 64, 32, size, 50, size + 1);
            x.tick();
            Due.is("bytes of SIZE " + size, x.frame(0, 0, 0), size + 7);
            Due.is("LOAD of SIZE " + size, x.frame(0, 0, 3), size);
            Due.is("bytes of the rest", x.frame(0, 1, 0), 8);
            Due.is("LOAD of the rest", x.frame(0, 1, 3), 1);
            Due.frameIs("of SIZE " + size, x, 0, 0, Due.framed(Due.join(Due.bytes(0), Due.full(size, 0))));
        }
        SerialLink x = opened(1, 8, 4, 1, 50, 1);
        x.tick();
        x.carry(0, 0, 0);
        Due.is("bytes of a KNOWN", x.frame(1, 0, 0), 7);
        Due.is("LOAD of a KNOWN", x.frame(1, 0, 3), 0);
        // A LOAD of zeros alone is stuffed to no more bytes.
        SerialLink y = new SerialLink();
        y.open(1, 8, 4, 60, 50);
        Due.give(y, 0, new int[60]);
        y.tick();
        Due.is("bytes of 60 zeros", y.frame(0, 0, 0), 67);
        Due.frameIs("60 zeros", y, 0, 0, Due.framed(new int[61]));
    }

    /** "4 whether it is DATA that was laid before (1, 0)" */
    private static void frameLaidBefore() {
        for (int mode = 0; mode < 3; mode++) {
            SerialLink x = opened(mode, 8, 1, 5, 1, 10);
            x.tick();
            Due.is("the first time", x.frame(0, 0, 4), 0);
            x.tick();
            Due.is("laid again", x.frame(0, 1, 4), 1);
            Due.is("the first stays what it was", x.frame(0, 0, 4), 0);
            x.carry(0, 0, 0);
            x.carry(0, 2, 0);
            Due.is("a KNOWN", x.frame(1, 0, 4), 0);
            Due.is("the same KNOWN again is no DATA", x.frame(1, 1, 4), 0);
            x.carry(1, 0, 0);
            x.tick();
            Due.is("the next PIECE", x.frame(0, 1, 4), 0);
            Due.is("DATA laid again", x.count(1), 1);
        }
    }

    /** "Byte i of it; NONE if there is none such": the 0 behind it is the last */
    private static void octetOfAnyIndex() {
        SerialLink x = opened(1, 8, 4, 5, 1, 10);
        x.tick();
        x.carry(0, 0, 0);
        for (int line = 0; line < 2; line++) {
            int n = x.frame(line, 0, 0);
            Due.is("the first is a CODE", x.octet(line, 0, 0) > 0, true);
            Due.is("the last is 0", x.octet(line, 0, n - 1), 0);
            for (int i = 0; i < n - 1; i++) {
                Due.is("no 0 ahead of the last", x.octet(line, 0, i) > 0, true);
            }
            Due.is("behind the last", x.octet(line, 0, n), -1);
            for (int i : WILD) {
                Due.is("octet(" + line + ", 0, " + i + ")", x.octet(line, 0, i), -1);
            }
        }
        // A shorter FRAME in a place where a longer one was has no more than its own bytes.
        SerialLink y = opened(1, 8, 1, 60, 50, 61);
        for (int i = 0; i < 40; i++) {
            y.tick();
            y.carry(0, i == 0 ? 0 : 2, 0);
        }
        y.round();
        y.open(1, 8, 1, 1, 1);
        Due.give(y, 0, Due.bytes(255));
        y.tick();
        Due.frameIs("a shorter one", y, 0, 0, Due.framed(0, 255));
        for (int i = 8; i < 70; i++) {
            Due.is("nothing of the longer one", y.octet(0, 0, i), -1);
        }
        // Bytes above 127 are told as such.
        SerialLink z = new SerialLink();
        Due.give(z, 0, Due.bytes(128, 255, 127, 129));
        z.tick();
        Due.frameIs("bytes above 127", z, 0, 0, Due.framed(0, 128, 255, 127, 129));
    }

    private static void octetOfNoFrame() {
        SerialLink x = opened(1, 8, 4, 5, 1, 10);
        x.tick();
        for (int i : new int[] {-1, 0, 1, 66}) {
            Due.is("behind the last", x.octet(0, 2, i), -1);
            Due.is("ahead of the first", x.octet(0, -1, i), -1);
            Due.is("of an empty LINE", x.octet(1, 0, i), -1);
            for (int k : WILD) {
                Due.is("octet(0, " + k + ")", x.octet(0, k, i), -1);
            }
        }
    }

    /** "How many FRAMES a LINE has": 0 .. 40 */
    private static void lineHowMany() {
        for (int n = 0; n <= 45; n++) {
            SerialLink x = opened(1, 64, 63, 1, 50, n);
            x.tick();
            Due.is("line of " + n, x.line(0), Math.min(n, 40));
            Due.is("the other one", x.line(1), 0);
        }
    }

    /** "NONE for others" */
    private static void stateOfOthers() {
        for (int end = 0; end < 2; end++) {
            for (int what : new int[] {-1, -2, 10, 11, 100, Integer.MAX_VALUE, Integer.MIN_VALUE}) {
                Due.is("state(" + end + ", " + what + ")", new SerialLink().state(end, what), -1);
                Due.is("state(" + end + ", " + what + ")", Twins.busy(2).state(end, what), -1);
            }
        }
    }

    /** "0 bytes GIVEN": 0 .. 3000, however many are in PIECES */
    private static void stateGiven() {
        SerialLink x = opened(1, 64, 40, 60, 50, 1200);
        x.round();
        Due.is("in PIECES all the same", x.state(0, 0), 1200);
        Due.give(x, 0, Due.full(1200, 0));
        Due.give(x, 0, Due.full(599, 0));
        Due.is("2999", x.state(0, 0), 2999);
        Due.give(x, 0, Due.bytes(1));
        Due.is("3000", x.state(0, 0), 3000);
        Due.give(x, 0, Due.bytes(1));
        Due.is("3000 at most", x.state(0, 0), 3000);
        x.round();
        Due.is("known all the same", x.state(0, 0), 3000);
        Due.is("BASE", x.state(0, 2), 50);
    }

    /** "1 bytes in PIECES": of those that are known, too */
    private static void stateInPieces() {
        SerialLink x = opened(1, 8, 2, 5, 50, 23);
        int[] due = {10, 20, 23, 23};
        Due.is("none yet", x.state(0, 1), 0);
        for (int d : due) {
            x.round();
            Due.is("in PIECES", x.state(0, 1), d);
        }
        Due.is("NEXT", x.state(0, 3), 5);
        Due.is("BASE", x.state(0, 2), 5);
    }

    /** "8 bytes heard since the 0 before (120 at most)" */
    private static void stateHeard() {
        for (int end = 0; end < 2; end++) {
            SerialLink x = new SerialLink();
            for (int i = 1; i <= 130; i++) {
                x.noise(end, 255, 1);
                Due.is("heard", x.state(end, 8), Math.min(i, 120));
                Due.is("by the other", x.state(1 - end, 8), 0);
            }
            x.noise(end, 0, 1);
            Due.is("since the 0", x.state(end, 8), 0);
            x.noise(end, 0x00010000, 4);
            Due.is("since the last 0", x.state(end, 8), 0);
            x.noise(end, 0x01000101, 4);
            Due.is("since the last 0", x.state(end, 8), 2);
        }
    }

    /** "6 PIECES held ahead of their turn", "9 PIECES from BASE to NEXT that are KEPT" */
    private static void stateHeldAndKept() {
        SerialLink x = opened(2, 64, 32, 1, 50, 32);
        x.tick();
        x.carry(0, 1, 0);
        for (int held = 1; held <= 31; held++) {
            x.carry(0, 0, 0);
            Due.is("held", x.state(1, 6), held);
            Due.is("the other holds none", x.state(0, 6), 0);
            x.carry(1, 0, 0);
            Due.is("KEPT", x.state(0, 9), held);
            Due.is("the other has none KEPT", x.state(1, 9), 0);
        }
        Due.noise(x, 1, Due.framed(0, 1));
        Due.is("none held", x.state(1, 6), 0);
        Due.is("KEPT till it is known", x.state(0, 9), 31);
        x.carry(1, 0, 0);
        Due.is("none KEPT", x.state(0, 9), 0);
        Due.is("BASE", x.state(0, 2), 32);
    }

    /** "Byte i that an end has TAKEN; NONE if there is none such" */
    private static void takenOfAnyIndex() {
        SerialLink x = opened(1, 8, 4, 5, 50, 7);
        for (int end = 0; end < 2; end++) {
            Due.is("taken(" + end + ", 0) of none", x.taken(end, 0), -1);
            for (int i : WILD) {
                Due.is("taken(" + end + ", " + i + ") of none", x.taken(end, i), -1);
            }
        }
        x.tick();
        x.carry(0, 0, 0);
        Due.takenIs("five", x, 1, Due.full(5, 0));
        x.carry(0, 0, 0);
        Due.takenIs("seven", x, 1, Due.full(7, 0));
        Due.is("the other has none", x.taken(0, 0), -1);
        for (int i : WILD) {
            Due.is("taken(1, " + i + ")", x.taken(1, i), -1);
        }
        Due.noise(x, 1, Due.framed(2, 0, 128, 255, 127));
        Due.takenIs("any byte", x, 1, Due.join(Due.full(7, 0), Due.bytes(0, 128, 255, 127)));
    }

    /** "NONE for others" */
    private static void countOfOthers() {
        for (int what : new int[] {-1, -2, 10, 16, 17, 100, Integer.MAX_VALUE, Integer.MIN_VALUE}) {
            Due.is("count(" + what + ")", new SerialLink().count(what), -1);
            Due.is("count(" + what + ")", Twins.busy(2).count(what), -1);
            Due.is("count(" + what + ")", Twins.full(1).count(what), -1);
        }
    }

    private static void countsAre(String call, SerialLink x, int... want) {
        for (int what = 0; what < 10; what++) {
            Due.is(call + ", count(" + what + ")", x.count(what), want[what]);
        }
    }

    /** One thing after the other: each counts for itself, and for nothing else. */
    private static void countOfEach() {
        SerialLink x = opened(1, 64, 63, 1, 2, 41);
        countsAre("open", x, 0, 0, 0, 0, 0, 0, 0, 0, 0, 0);
        x.tick();
        countsAre("41 laid", x, 41, 0, 1, 0, 0, 0, 0, 0, 0, 1);
        x.tick();
        countsAre("a TICK", x, 41, 0, 1, 0, 0, 0, 0, 0, 0, 2);
        x.carry(0, 1, 0);
        countsAre("lost", x, 41, 0, 1, 1, 0, 0, 0, 0, 0, 2);
        x.carry(0, 0, 0);
        countsAre("AGAIN", x, 42, 0, 1, 1, 1, 1, 0, 0, 0, 2);
        x.carry(0, 3, 256);
        Due.is("XOR 0 at byte 1 is heard as it was laid", x.count(4), 2);
        countsAre("AGAIN", x, 43, 0, 1, 1, 2, 2, 0, 0, 0, 2);
        x.carry(0, 3, 257);
        countsAre("WRONG", x, 43, 0, 1, 1, 2, 2, 0, 1, 0, 2);
        x.carry(0, 4, 0);
        countsAre("all bytes lost, counted as nothing", x, 43, 0, 1, 1, 2, 2, 0, 1, 0, 2);
        x.carry(1, 0, 0);
        countsAre("KNOWN, d 0", x, 43, 0, 1, 1, 3, 2, 0, 1, 0, 2);
        Due.noise(x, 0, Due.framed(64 + 42));
        countsAre("OLD and FORGED", x, 43, 0, 1, 1, 4, 2, 1, 1, 1, 2);
        Due.noise(x, 1, Due.framed(0, 1));
        countsAre("TAKEN and FORGED", x, 44, 0, 1, 1, 5, 2, 1, 1, 2, 2);
        x.tick();
        countsAre("all again, 5 with room", x, 85, 41, 37, 1, 5, 2, 1, 1, 2, 3);
        Due.is("frames", x.line(0), 40);
    }

    /** "10 + k WRONG of kind k (1 .. 5)", "7 WRONG" */
    private static void countAtATime() {
        int[][] wrong = {{9, 0}, {1, 0}, Due.join(Due.stuffed(1, 2, 3, 4, 5), Due.bytes(0)), Due.framed(255, 1),
            Due.join(Due.full(121, 0), Due.bytes(0))};
        SerialLink x = new SerialLink();
        for (int turn = 1; turn <= 3; turn++) {
            for (int kind = 1; kind <= 5; kind++) {
                Due.noise(x, kind % 2, wrong[kind - 1]);
                Due.is("WRONG", x.count(7), 5 * (turn - 1) + kind);
                for (int k = 1; k <= 5; k++) {
                    Due.is("WRONG of kind " + k, x.count(10 + k), k <= kind ? turn : turn - 1);
                }
            }
        }
        Due.is("none taken", x.count(4), 0);
        Due.is("none FORGED", x.count(8), 0);
    }

    /** A call that only asks changes nothing, whether it finds something or not. */
    private static void askingChangesNothing() {
        for (int mode = 0; mode < 3; mode++) {
            int of = mode;
            Twins.Make busy = () -> Twins.busy(of);
            SerialLink y = Twins.busy(mode);
            for (int end = 0; end < 2; end++) {
                int e = end;
                for (int i = -1; i < 12; i++) {
                    int at = i;
                    Twins.changesNothing("state", busy, x -> x.state(e, at), y.state(e, at));
                    Twins.changesNothing("taken", busy, x -> x.taken(e, at), y.taken(e, at));
                    Twins.changesNothing("frame", busy, x -> x.frame(e, 0, at), y.frame(e, 0, at));
                    Twins.changesNothing("frame", busy, x -> x.frame(e, at, 0), y.frame(e, at, 0));
                    Twins.changesNothing("octet", busy, x -> x.octet(e, at, 1), y.octet(e, at, 1));
                    Twins.changesNothing("octet", busy, x -> x.octet(e, 0, at), y.octet(e, 0, at));
                }
                Twins.changesNothing("line", busy, x -> x.line(e), y.line(e));
            }
            for (int what = -1; what < 18; what++) {
                int of2 = what;
                Twins.changesNothing("count", busy, x -> x.count(of2), y.count(what));
                Twins.changesNothing("out", busy, x -> x.out(of2), y.out(what));
                Twins.changesNothing("fault", busy, x -> x.fault(of2), y.fault(what));
            }
        }
    }
}
