/** Promises 1 A new object, 2 open, 7 tick .. 16 count: what the document's words ask, by hand. */
public final class LinkTest {
    public static void main(String[] args) {
        newObject();
        open();
        openAgain();
        ticksGoingBack();
        ticksOneByOne();
        ticksEachByItself();
        frames();
        carryKinds();
        carryWrong();
        changedAndCut();
        cleanAndForged();
        wrongKinds();
        noise();
        takesInOrder();
        goingBackOld();
        holds();
        keeps();
        noRoom();
        round();
        fullStream();
        fullStreamHeld();
        Due.end("LinkTest");
    }

    private static void statesAre(String call, SerialLink x, int end, int... want) {
        for (int what = 0; what < want.length; what++) {
            Due.is(call + ", state(" + end + ", " + what + ")", x.state(end, what), want[what]);
        }
    }

    /** Counts 0 .. 9, then the kinds 1 .. 5. */
    private static void countsAre(String call, SerialLink x, int... want) {
        for (int i = 0; i < want.length; i++) {
            int what = i < 10 ? i : i + 1;
            Due.is(call + ", count(" + what + ")", x.count(what), want[i]);
        }
    }

    private static void newObject() {
        SerialLink x = new SerialLink();
        Due.is("NONE", SerialLink.NONE, -1);
        allIsAsAtFirst("new", x);
        // SIZE 16, WINDOW 4: five pieces' bytes, four of them made.
        Due.give(x, 0, Due.full(70, 0));
        Due.is("tick", x.tick(), 4);
        Due.is("SIZE 16", x.frame(0, 3, 3), 16);
        Due.is("WINDOW 4", x.state(0, 3), 4);
        Due.is("TIMEOUT 3, 1", x.tick(), 0);
        Due.is("TIMEOUT 3, 2", x.tick(), 0);
        Due.is("TIMEOUT 3, 3", x.tick(), 4);
        for (int i = 0; i < 8; i++) {
            x.carry(0, 0, 0);
        }
        Due.is("MODE 1: a KNOWN has no LOAD", x.frame(1, 0, 3), 0);
        Due.is("MODE 1: all laid again were AGAIN", x.count(5), 4);
        x.round();
        x.round();
        Due.is("the fifth piece", x.state(1, 4), 5);
        Due.give(x, 0, Due.full(64, 0));
        x.tick();
        Due.is("SPACE 8: number of piece 8", x.frame(0, 3, 2), 0);
        Due.is("SPACE 8: number of piece 7", x.frame(0, 2, 2), 7);
    }

    private static void allIsAsAtFirst(String call, SerialLink x) {
        for (int end = 0; end < 2; end++) {
            statesAre(call, x, end, 0, 0, 0, 0, 0, 0, 0, 0, 0, 0);
            Due.is(call + ", line", x.line(end), 0);
            Due.is(call + ", taken", x.taken(end, 0), -1);
            Due.is(call + ", frame", x.frame(end, 0, 0), -1);
        }
        countsAre(call, x, 0, 0, 0, 0, 0, 0, 0, 0, 0, 0, 0, 0, 0, 0, 0);
        for (int what : new int[] {-1, 10, 16, 17, Integer.MAX_VALUE, Integer.MIN_VALUE}) {
            Due.is(call + ", count(" + what + ")", x.count(what), -1);
        }
        for (int what : new int[] {-1, 10, 11, Integer.MAX_VALUE, Integer.MIN_VALUE}) {
            Due.is(call + ", state(0, " + what + ")", x.state(0, what), -1);
        }
        for (int no : new int[] {-1, 2, Integer.MAX_VALUE, Integer.MIN_VALUE}) {
            Due.outOfBounds("state", () -> x.state(no, 0));
            Due.outOfBounds("state", () -> x.state(no, 99));
            Due.outOfBounds("line", () -> x.line(no));
            Due.outOfBounds("taken", () -> x.taken(no, 0));
            Due.outOfBounds("frame", () -> x.frame(no, 0, 0));
            Due.outOfBounds("octet", () -> x.octet(no, 0, 0));
            Due.outOfBounds("carry", () -> x.carry(no, 0, 0));
            Due.outOfBounds("carry", () -> x.carry(no, 9, -1));
            Due.outOfBounds("noise", () -> x.noise(no, 0, 1));
            Due.outOfBounds("noise", () -> x.noise(no, 0, 9));
            Due.outOfBounds("give", () -> x.give(no));
        }
    }

    private static void open() {
        SerialLink x = new SerialLink();
        int[][] can = {
            {0, 2, 1, 1, 1}, {0, 64, 1, 60, 50}, {1, 2, 1, 1, 1}, {1, 64, 63, 60, 50}, {1, 64, 1, 60, 50},
            {2, 2, 1, 1, 1}, {2, 64, 32, 60, 50}, {2, 5, 2, 9, 9}, {2, 4, 2, 9, 9}, {1, 3, 2, 9, 9},
        };
        int[][] cannot = {
            {-1, 8, 1, 1, 1}, {3, 8, 1, 1, 1}, {0, 1, 1, 1, 1}, {0, 65, 1, 1, 1}, {0, 8, 2, 1, 1}, {0, 8, 0, 1, 1},
            {1, 8, 8, 1, 1}, {1, 8, 0, 1, 1}, {1, 1, 1, 1, 1}, {1, 65, 1, 1, 1}, {1, 2, 2, 1, 1}, {1, 64, 64, 1, 1},
            {2, 8, 5, 1, 1}, {2, 5, 3, 1, 1}, {2, 8, 0, 1, 1}, {2, 64, 33, 1, 1}, {2, 3, 2, 1, 1}, {2, 66, 33, 1, 1},
            {1, 8, 4, 0, 1}, {1, 8, 4, 61, 1}, {1, 8, 4, 1, 0}, {1, 8, 4, 1, 51}, {1, 8, 4, -1, 1}, {1, 8, 4, 1, -1},
            {1, 8, -1, 1, 1}, {1, -8, 4, 1, 1}, {1, 0, 0, 1, 1},
        };
        for (int[] c : can) {
            Due.is("open" + java.util.Arrays.toString(c), x.open(c[0], c[1], c[2], c[3], c[4]), true);
        }
        Due.give(x, 0, Due.full(30, 0));
        x.tick();
        for (int[] c : cannot) {
            Due.is("open" + java.util.Arrays.toString(c), x.open(c[0], c[1], c[2], c[3], c[4]), false);
        }
        Due.is("open that can't be does nothing", x.state(0, 0), 30);
        Due.is("open that can't be does nothing", x.line(0), 2);
        Due.is("open that can't be keeps SIZE", x.frame(0, 0, 3), 9);
    }

    private static void openAgain() {
        SerialLink x = new SerialLink();
        x.open(2, 8, 4, 2, 1);
        Due.give(x, 0, Due.full(30, 0));
        Due.give(x, 1, Due.full(30, 0));
        x.tick();
        x.carry(0, 1, 0);
        x.carry(0, 0, 0);
        x.carry(1, 5, 9);
        x.noise(0, 0x01020304, 4);
        x.noise(1, 0x01020304, 4);
        x.tick();
        Due.is("something is held ahead of open()", x.state(1, 6), 1);
        x.noise(1, 0, 1);
        Due.noise(x, 1, Due.framed(0, 5, 6));
        x.noise(1, 0x01020304, 4);
        Due.is("something is taken ahead of open()", x.state(1, 5), 4);
        Due.is("two pieces", x.state(1, 4), 2);
        Due.is("open", x.open(2, 8, 4, 2, 1), true);
        allIsAsAtFirst("open", x);
        // Nothing of the time before may come back: not the held piece, not the timers.
        Due.give(x, 0, Due.full(4, 40));
        x.tick();
        Due.is("the lines are anew", x.frame(0, 0, 4), 0);
        x.carry(0, 0, 0);
        Due.is("only the first is taken", x.state(1, 4), 1);
        x.carry(0, 0, 0);
        Due.takenIs("open", x, 1, Due.full(4, 40));
    }

    private static void ticksGoingBack() {
        SerialLink x = new SerialLink();
        x.open(1, 4, 3, 2, 2);
        Due.give(x, 0, Due.full(9, 0));
        Due.give(x, 1, Due.full(3, 0));
        Due.is("tick 1", x.tick(), 5);
        statesAre("tick 1", x, 0, 9, 6, 0, 3, 0, 0, 0, 1, 0, 0);
        statesAre("tick 1", x, 1, 3, 3, 0, 2, 0, 0, 0, 1, 0, 0);
        Due.is("tick 2", x.tick(), 0);
        Due.is("tick 3: all again", x.tick(), 5);
        countsAre("tick 3", x, 10, 5, 0, 0, 0, 0, 0, 0, 0, 3);
        for (int k = 0; k < 6; k++) {
            Due.is("in order", x.frame(0, k, 2), k % 3);
            Due.is("laid before", x.frame(0, k, 4), k / 3);
        }
        Due.is("tick 4", x.tick(), 0);
        x.carry(0, 0, 0);
        x.carry(1, 1, 0);
        x.carry(1, 1, 0);
        x.carry(1, 1, 0);
        x.carry(1, 1, 0);
        Due.is("KNOWN", x.frame(1, 0, 1), 1);
        Due.is("KNOWN tells what is wanted", x.frame(1, 0, 2), 1);
        x.carry(1, 0, 0);
        Due.is("BASE is 1 more", x.state(0, 2), 1);
        // The timer began anew at clock 4 with the KNOWN: not late at 5, late at 6.
        Due.is("tick 5: the one that the window lets in; end 1 again", x.tick(), 1 + 2);
        Due.is("its number", x.frame(0, x.line(0) - 1, 2), 3);
        Due.is("tick 6", x.tick(), 3);
        Due.is("tick 7", x.tick(), 2);
        Due.is("tick 8", x.tick(), 3);
    }

    /** A new piece sets the one timer only if it is BASE. */
    private static void ticksOneByOne() {
        SerialLink x = new SerialLink();
        x.open(0, 2, 1, 3, 3);
        Due.give(x, 0, Due.full(4, 0));
        Due.is("tick 1", x.tick(), 1);
        Due.is("tick 2", x.tick(), 0);
        x.carry(0, 0, 0);
        x.carry(1, 0, 0);
        Due.is("tick 3", x.tick(), 1);
        Due.is("a short piece", x.frame(0, 0, 3), 1);
        Due.is("number 1", x.frame(0, 0, 2), 1);
        Due.is("tick 4", x.tick(), 0);
        Due.is("tick 5", x.tick(), 0);
        Due.is("tick 6: 3 above its timer", x.tick(), 1);
        Due.is("its number", x.frame(0, 1, 2), 1);

        SerialLink y = new SerialLink();
        y.open(1, 8, 4, 1, 2);
        Due.give(y, 0, Due.bytes(9));
        Due.is("first", y.tick(), 1);
        Due.give(y, 0, Due.bytes(8));
        Due.is("second, not BASE: the timer stays", y.tick(), 1);
        Due.is("both again at 3", y.tick(), 2);
        // Nothing laid for long: the timer is far behind, but a new BASE sets it.
        SerialLink z = new SerialLink();
        z.open(1, 8, 4, 1, 2);
        for (int i = 0; i < 5; i++) {
            Due.is("empty tick", z.tick(), 0);
        }
        Due.give(z, 0, Due.bytes(9));
        Due.is("laid once", z.tick(), 1);
        Due.is("not late yet", z.tick(), 0);
        Due.is("late", z.tick(), 1);
        Due.is("clock", z.state(1, 7), 8);
    }

    private static void ticksEachByItself() {
        SerialLink x = new SerialLink();
        x.open(2, 8, 4, 1, 2);
        Due.give(x, 0, Due.bytes(1, 2));
        Due.is("tick 1", x.tick(), 2);
        Due.give(x, 0, Due.bytes(3));
        Due.is("tick 2", x.tick(), 1);
        Due.is("tick 3: the two first", x.tick(), 2);
        Due.is("tick 4: the third", x.tick(), 1);
        Due.is("again", x.frame(0, 5, 2), 2);
        Due.is("laid before", x.frame(0, 5, 4), 1);
        // A KNOWN sets no timer in this mode.
        x.carry(0, 0, 0);
        x.carry(1, 0, 0);
        Due.is("BASE", x.state(0, 2), 1);
        Due.is("tick 5: piece 1 of the two", x.tick(), 1);
        Due.is("tick 6", x.tick(), 1);
    }

    private static void frames() {
        SerialLink x = new SerialLink();
        x.open(2, 64, 32, 60, 1);
        int[] bytes = Due.full(61, 200);
        bytes[3] = 0;
        bytes[59] = 0;
        bytes[60] = 0;
        Due.give(x, 0, bytes);
        x.tick();
        int[] first = Due.join(Due.bytes(0), java.util.Arrays.copyOf(bytes, 60));
        Due.frameIs("DATA 0", x, 0, 0, Due.framed(first));
        Due.frameIs("DATA 1", x, 0, 1, Due.framed(1, 0));
        int[] want = {67, 0, 0, 60, 0, -1};
        for (int what = 0; what < want.length; what++) {
            Due.is("frame(0, 0, " + what + ")", x.frame(0, 0, what), want[what]);
        }
        Due.is("frame(0, 0, -1)", x.frame(0, 0, -1), -1);
        Due.is("frame(0, 2, 0)", x.frame(0, 2, 0), -1);
        Due.is("frame(0, -1, 0)", x.frame(0, -1, 0), -1);
        Due.is("frame(0, MAX, 0)", x.frame(0, Integer.MAX_VALUE, 0), -1);
        Due.is("octet(0, 2, 0)", x.octet(0, 2, 0), -1);
        Due.is("octet(0, -1, 0)", x.octet(0, -1, 0), -1);
        Due.is("octet(0, MIN, MIN)", x.octet(0, Integer.MIN_VALUE, Integer.MIN_VALUE), -1);
        Due.is("line(0)", x.line(0), 2);
        Due.is("line(1)", x.line(1), 0);
        x.carry(0, 1, 0);
        x.carry(0, 0, 0);
        // WINDOW 32 wants 31 bits: 4 bytes; piece 1, the first behind the one wanted, is held.
        Due.frameIs("KNOWN", x, 1, 0, Due.framed(64, 1, 0, 0, 0));
        int[] known = {11, 1, 0, 4, 0, -1};
        for (int what = 0; what < known.length; what++) {
            Due.is("frame(1, 0, " + what + ")", x.frame(1, 0, what), known[what]);
        }
        int[] loads = {1, 0, 2, 1, 9, 1, 10, 2, 17, 2, 18, 3, 25, 3, 26, 4};
        for (int i = 0; i < loads.length; i += 2) {
            x.open(2, 64, loads[i], 60, 1);
            Due.give(x, 0, Due.bytes(5));
            x.round();
            x.open(2, 64, loads[i], 60, 1);
            Due.give(x, 0, Due.bytes(5));
            x.tick();
            x.carry(0, 0, 0);
            Due.is("LOAD of a KNOWN, WINDOW " + loads[i], x.frame(1, 0, 3), loads[i + 1]);
        }
        x.open(1, 64, 33, 60, 1);
        Due.give(x, 1, Due.bytes(5));
        x.tick();
        x.carry(1, 0, 0);
        Due.frameIs("KNOWN of mode 1", x, 0, 0, Due.framed(65));
    }

    private static SerialLink withThree() {
        SerialLink x = new SerialLink();
        x.open(1, 8, 4, 2, 9);
        Due.give(x, 0, Due.bytes(11, 12, 13, 14, 15, 16));
        x.tick();
        return x;
    }

    private static void carryKinds() {
        SerialLink x = withThree();
        Due.is("heard", x.carry(0, 0, -5), 2);
        Due.is("a KNOWN lies on the other line", x.line(1), 1);
        Due.takenIs("heard", x, 1, Due.bytes(11, 12));
        Due.is("lost", x.carry(0, 1, -5), 1);
        Due.is("nothing by it", x.line(1), 1);
        countsAre("lost", x, 4, 0, 0, 1, 1, 0, 0, 0, 0, 1);
        x = withThree();
        Due.is("heard, and stays", x.carry(0, 2, Integer.MIN_VALUE), 3);
        Due.is("heard, and stays", x.carry(0, 2, 0), 3);
        countsAre("heard, and stays", x, 5, 0, 0, 0, 2, 1, 0, 0, 0, 1);
        Due.is("the same frame", x.frame(0, 0, 2), 0);
        x = withThree();
        Due.is("a 0, then it", x.carry(0, 5, 0x7FFFFF00), 2);
        countsAre("a 0, then it", x, 4, 0, 0, 0, 1, 0, 0, 0, 0, 1);
        Due.is("a byte, then it", x.carry(0, 5, -1), 1);
        countsAre("a byte, then it: its lowest 8 bits", x, 4, 0, 0, 0, 1, 0, 0, 1, 0, 1, 1);
        Due.is("then nothing is left over", x.state(1, 8), 0);
        x = withThree();
        x.carry(0, 4, 3);
        Due.is("three bytes heard", x.state(1, 8), 3);
        Due.is("not counted as lost", x.count(3), 0);
        x.carry(0, 5, 256 + 7);
        Due.is("with what came behind", x.state(1, 8), 0);
        Due.is("it is wrong", x.count(7), 1);
        // The last bytes lost: the next frame's first bytes are of the same body.
        x = withThree();
        Due.is("all bytes lost", x.carry(0, 4, 0), 2);
        Due.is("nothing heard", x.state(1, 8), 0);
        x.carry(0, 0, 0);
        countsAre("out of order", x, 4, 0, 0, 0, 1, 1, 0, 0, 0, 1);
        Due.is("NONE when a line is empty", x.carry(1, 0, 0) + x.carry(1, 0, 0), -1);
    }

    private static void carryWrong() {
        SerialLink x = withThree();
        int n = x.frame(0, 0, 0);
        int[][] wrong = {
            {6, 0}, {-1, 0}, {Integer.MAX_VALUE, 0}, {Integer.MIN_VALUE, 0}, {3, -1}, {4, -1},
            {3, Integer.MIN_VALUE}, {4, Integer.MIN_VALUE}, {3, n * 256}, {3, Integer.MAX_VALUE}, {4, n},
            {4, Integer.MAX_VALUE},
        };
        for (int[] w : wrong) {
            Due.is("carry(0, " + w[0] + ", " + w[1] + ")", x.carry(0, w[0], w[1]), -1);
        }
        Due.is("carry(1, 0, 0)", x.carry(1, 0, 0), -1);
        Due.is("carry(1, 1, 0)", x.carry(1, 1, 0), -1);
        Due.is("carry(1, 5, 7) of no frame", x.carry(1, 5, 7), -1);
        Due.is("nothing is heard by it", x.state(0, 8), 0);
        Due.is("all stay", x.line(0), 3);
        countsAre("nothing by it", x, 3, 0, 0, 0, 0, 0, 0, 0, 0, 1);
        Due.is("the last byte can change", x.carry(0, 3, n * 256 - 1), 2);
        Due.is("then no 0 came", x.state(1, 8), n);
        Due.is("the last byte can go", x.carry(0, 4, x.frame(0, 0, 0) - 1), 1);
        Due.is("then no 0 came", x.state(1, 8), 2 * n - 1);
    }

    private static void changedAndCut() {
        SerialLink x = withThree();
        x.carry(0, 3, 2 * 256 + 1);
        countsAre("a byte of the load changed", x, 3, 0, 0, 0, 0, 0, 0, 1, 0, 1, 0, 0, 1, 0, 0);
        // The byte becomes 0: two bodies are heard, both of them wrong.
        x = withThree();
        x.carry(0, 3, 3 * 256 + x.octet(0, 0, 3));
        Due.is("a byte changed to 0", x.count(7), 2);
        // XOR with 0 changes nothing: it is as it was laid.
        x = withThree();
        x.carry(0, 3, 2 * 256);
        countsAre("a byte changed by nothing", x, 4, 0, 0, 0, 1, 0, 0, 0, 0, 1);
        // The 0 lost, a 0 of noise in its place: taken, but not clean.
        x = withThree();
        x.carry(0, 4, x.frame(0, 0, 0) - 1);
        x.noise(1, 0, 1);
        countsAre("another 0", x, 4, 0, 0, 0, 1, 0, 0, 0, 1, 1);
        Due.takenIs("another 0", x, 1, Due.bytes(11, 12));
    }

    private static void cleanAndForged() {
        SerialLink x = withThree();
        int[] frame = Due.framed(0, 11, 12);
        // Some of it by noise, the rest from the line.
        Due.noise(x, 1, frame);
        countsAre("all by noise", x, 4, 0, 0, 0, 1, 0, 0, 0, 1, 1);
        x.noise(1, 5, 1);
        x.noise(1, 0, 1);
        x.carry(0, 0, 0);
        countsAre("clean behind a 0", x, 5, 0, 0, 0, 2, 1, 0, 1, 1, 1);
        // A frame without its 0, ended by carry's own byte 0; the frame behind it is clean.
        x = withThree();
        x.carry(0, 4, x.frame(0, 0, 0) - 1);
        x.carry(0, 5, 0);
        countsAre("ended by carry's 0", x, 5, 0, 0, 0, 2, 0, 0, 0, 1, 1);
        // More than 120 bytes, then a frame: nothing of it is clean, and then the next is.
        x = withThree();
        for (int i = 0; i < 40; i++) {
            x.noise(1, 0x01010101, 4);
        }
        Due.is("120 at most", x.state(1, 8), 120);
        x.carry(0, 0, 0);
        countsAre("overlong", x, 3, 0, 0, 0, 0, 0, 0, 1, 0, 1, 0, 0, 0, 0, 1);
        x.carry(0, 0, 0);
        countsAre("and forgotten", x, 4, 0, 0, 0, 1, 1, 0, 1, 0, 1, 0, 0, 0, 0, 1);
        partOfAFrame();
        behindOtherBytes();
        // KNOWNS that are OLD and DATA that is AGAIN are taken, so they are FORGED, too.
        x = withThree();
        Due.noise(x, 0, Due.framed(64 + 7));
        Due.noise(x, 1, Due.framed(5, 1));
        countsAre("forged and of no use", x, 4, 0, 0, 0, 2, 1, 1, 0, 2, 1);
    }

    /** A byte changed to 0 behind what is a whole body for itself: taken, but of a part of a frame. */
    private static void partOfAFrame() {
        int[] inner = Due.sealed(0, 11);
        SerialLink x = new SerialLink();
        x.open(1, 8, 4, 20, 9);
        Due.give(x, 0, Due.join(java.util.Arrays.copyOfRange(inner, 1, inner.length), Due.bytes(0, 7)));
        x.tick();
        int at = Due.stuffed(inner).length;
        x.carry(0, 3, at * 256 + x.octet(0, 0, at));
        countsAre("a part of a frame", x, 2, 0, 0, 0, 1, 0, 0, 1, 1, 1);
        Due.takenIs("a part of a frame", x, 1, Due.bytes(11));
    }

    /** The check of these bytes with a 0 behind is 0, so the check of a body behind them is that of both. */
    private static void behindOtherBytes() {
        int[] ahead = {0, 1, 90, 36, 90, 61};
        SerialLink x = new SerialLink();
        x.open(1, 8, 4, 20, 9);
        Due.give(x, 0, Due.bytes(11, 12));
        x.tick();
        Due.noise(x, 1, Due.stuffed(ahead));
        x.carry(0, 0, 0);
        countsAre("behind other bytes", x, 2, 0, 0, 0, 1, 0, 0, 0, 1, 1);
        Due.takenIs("behind other bytes", x, 1, Due.bytes(1, 90, 36, 90, 61, 0, 0, 11, 12));
    }

    private static void wrongKinds() {
        SerialLink x = new SerialLink();
        x.open(2, 16, 4, 3, 9);
        Due.noise(x, 0, Due.bytes(0, 0, 0));
        countsAre("of no bytes nothing comes", x, 0, 0, 0, 0, 0, 0, 0, 0, 0, 0);
        Due.noise(x, 0, Due.bytes(9, 1, 0));
        countsAre("kind 1", x, 0, 0, 0, 0, 0, 0, 0, 1, 0, 0, 1, 0, 0, 0, 0);
        Due.noise(x, 0, Due.bytes(1, 0));
        Due.noise(x, 0, Due.join(Due.stuffed(1, 2, 3, 4), Due.bytes(0)));
        countsAre("kind 2", x, 0, 0, 0, 0, 0, 0, 0, 3, 0, 0, 1, 2, 0, 0, 0);
        Due.noise(x, 0, Due.join(Due.stuffed(1, 2, 3, 4, 5), Due.bytes(0)));
        int[] bad = Due.sealed(0, 7);
        for (int i = 2; i < 6; i++) {
            int[] changed = bad.clone();
            changed[i] ^= 1;
            Due.noise(x, 0, Due.join(Due.stuffed(changed), Due.bytes(0)));
        }
        countsAre("kind 3", x, 0, 0, 0, 0, 0, 0, 0, 8, 0, 0, 1, 2, 5, 0, 0);
        int[][] heads = {
            {128, 1}, {192, 1}, {16, 1}, {64 + 16, 0}, {0}, {0, 1, 2, 3, 4}, {64}, {64, 0, 0}, {255}, {63, 1},
        };
        for (int[] head : heads) {
            Due.noise(x, 0, Due.framed(head));
        }
        countsAre("kind 4", x, 0, 0, 0, 0, 0, 0, 0, 8 + heads.length, 0, 0, 1, 2, 5, heads.length, 0);
        int[] ones = new int[120];
        java.util.Arrays.fill(ones, 1);
        Due.noise(x, 0, Due.join(ones, Due.bytes(0)));
        Due.is("120 bytes: kind 3", x.count(13), 6);
        Due.noise(x, 0, Due.join(ones, Due.bytes(9, 0)));
        Due.is("121 bytes: kind 5, ahead of 1", x.count(15), 1);
        Due.is("121 bytes: not kind 1", x.count(11), 1);
        Due.is("none was taken", x.count(4), 0);
        Due.is("none was laid", x.line(0), 0);
        Due.noise(x, 0, Due.framed(0, 1));
        Due.noise(x, 0, Due.framed(15, 1, 2, 3));
        Due.noise(x, 0, Due.framed(64, 255));
        Due.is("these are taken", x.count(4), 3);
        x.open(1, 16, 4, 3, 9);
        Due.noise(x, 0, Due.framed(64, 0));
        Due.is("a KNOWN of mode 1 has no load", x.count(14), 1);
        Due.noise(x, 0, Due.framed(64));
        Due.is("so", x.count(4), 1);
        x.open(0, 2, 1, 3, 9);
        Due.noise(x, 0, Due.framed(2, 5));
        Due.noise(x, 0, Due.framed(64, 0));
        Due.noise(x, 0, Due.framed(66));
        Due.is("SPACE 2", x.count(14), 3);
    }

    private static void noise() {
        SerialLink x = new SerialLink();
        Due.is("noise n 0", x.noise(0, 1, 0), -1);
        Due.is("noise n 5", x.noise(0, 1, 5), -1);
        Due.is("noise n -1", x.noise(0, 1, -1), -1);
        Due.is("noise n MAX", x.noise(0, 1, Integer.MAX_VALUE), -1);
        Due.is("nothing heard", x.state(0, 8), 0);
        Due.is("noise of 4", x.noise(0, 0x01020304, 4), 4);
        Due.is("noise of 3", x.noise(0, 0x00020304, 3), 3);
        Due.is("noise of 2", x.noise(0, 0xFFFF0304, 2), 2);
        Due.is("noise of 1", x.noise(0, -1, 1), 1);
        Due.is("heard", x.state(0, 8), 10);
        Due.is("the other end heard none", x.state(1, 8), 0);
        x.noise(0, 0x01000102, 4);
        Due.is("a 0 in it, the highest first", x.state(0, 8), 2);
        Due.is("what it ended is wrong", x.count(7), 1);
        x.noise(0, 0x00000001, 4);
        Due.is("three times 0", x.state(0, 8), 1);
        Due.is("one of these ended something", x.count(7), 2);
        // Each byte by its own place: a frame of noise, four at a time.
        SerialLink y = new SerialLink();
        int[] f = Due.framed(0, 0x81, 0, 0xFE, 3);
        int at = 0;
        for (; at + 4 <= f.length; at += 4) {
            y.noise(1, f[at] << 24 | f[at + 1] << 16 | f[at + 2] << 8 | f[at + 3], 4);
        }
        for (; at < f.length; at++) {
            y.noise(1, f[at], 1);
        }
        Due.takenIs("noise", y, 1, Due.bytes(0x81, 0, 0xFE, 3));
    }

    private static void takesInOrder() {
        SerialLink x = withThree();
        x.carry(0, 1, 0);
        x.carry(0, 0, 0);
        x.carry(0, 0, 0);
        Due.takenIs("none out of order", x, 1, Due.bytes());
        Due.is("AGAIN", x.count(5), 2);
        Due.is("a KNOWN for each", x.line(1), 2);
        Due.is("of the one wanted", x.frame(1, 1, 2), 0);
        x.round();
        Due.is("a KNOWN that tells nothing new is not OLD", x.count(6), 0);
        for (int i = 0; i < 9; i++) {
            x.round();
        }
        Due.takenIs("then in order", x, 1, Due.bytes(11, 12, 13, 14, 15, 16));
        statesAre("in order", x, 0, 6, 6, 3, 3, 0, 0, 0, 11, 0, 0);
        Due.is("wants", x.state(1, 4), 3);
    }

    private static void goingBackOld() {
        SerialLink x = withThree();
        Due.noise(x, 0, Due.framed(64 + 4));
        Due.is("above NEXT", x.count(6), 1);
        Due.is("BASE stays", x.state(0, 2), 0);
        Due.noise(x, 0, Due.framed(64 + 3));
        Due.is("up to NEXT", x.state(0, 2), 3);
        Due.noise(x, 0, Due.framed(64 + 3));
        Due.is("it again is not OLD", x.count(6), 1);
        Due.noise(x, 0, Due.framed(64 + 2));
        Due.is("the one before is", x.count(6), 2);
        Due.is("BASE", x.state(0, 2), 3);
        // d 0 does not set the timer: laid at 1, TIMEOUT 2, asked at 2, late at 3.
        SerialLink y = new SerialLink();
        y.open(1, 8, 4, 1, 2);
        Due.give(y, 0, Due.bytes(9));
        y.tick();
        y.tick();
        Due.noise(y, 0, Due.framed(64));
        Due.is("late for all that", y.tick(), 1);
        // With an end that has nothing outstanding the timer moves with d above 0 alone.
        Due.is("one again", y.count(1), 1);
    }

    private static SerialLink eachByItself() {
        SerialLink x = new SerialLink();
        x.open(2, 8, 4, 2, 9);
        Due.give(x, 0, Due.bytes(11, 12, 13, 14, 15, 16, 17, 18));
        x.tick();
        return x;
    }

    private static void holds() {
        SerialLink x = eachByItself();
        x.carry(0, 4, 0);
        x.carry(0, 2, 0);
        Due.is("held", x.state(1, 6), 1);
        x.carry(0, 0, 0);
        Due.is("held twice is AGAIN", x.count(5), 1);
        Due.is("held once", x.state(1, 6), 1);
        Due.frameIs("bit 0", x, 1, 0, Due.framed(64, 1));
        x.carry(0, 1, 0);
        x.carry(0, 0, 0);
        Due.is("two held", x.state(1, 6), 2);
        Due.frameIs("bits 0, 2", x, 1, 2, Due.framed(64, 5));
        Due.takenIs("none yet", x, 1, Due.bytes());
        Due.noise(x, 1, Due.framed(0, 11, 12));
        Due.takenIs("two at once", x, 1, Due.bytes(11, 12, 13, 14));
        Due.is("one held", x.state(1, 6), 1);
        Due.is("wants", x.state(1, 4), 2);
        Due.frameIs("bit 0 of the one behind 2", x, 1, 3, Due.framed(66, 1));
        Due.noise(x, 1, Due.framed(1, 9, 9));
        Due.is("behind the window", x.count(5), 2);
        Due.noise(x, 1, Due.framed(6, 9, 9));
        Due.is("d is WINDOW", x.count(5), 3);
        Due.noise(x, 1, Due.framed(5, 21));
        Due.is("d is WINDOW - 1", x.count(5), 3);
        Due.is("two held", x.state(1, 6), 2);
        Due.noise(x, 1, Due.framed(2, 15));
        Due.takenIs("loads of any length", x, 1, Due.bytes(11, 12, 13, 14, 15, 17, 18));
        Due.is("wants 4", x.state(1, 4), 4);
        Due.noise(x, 1, Due.framed(4, 20));
        Due.takenIs("across the rest", x, 1, Due.bytes(11, 12, 13, 14, 15, 17, 18, 20, 21));
    }

    private static void keeps() {
        SerialLink x = eachByItself();
        x.carry(0, 1, 0);
        x.carry(0, 0, 0);
        x.carry(0, 1, 0);
        x.carry(0, 0, 0);
        x.carry(1, 1, 0);
        x.carry(1, 0, 0);
        Due.is("kept", x.state(0, 9), 2);
        for (int i = 0; i < 8; i++) {
            Due.is("not late yet", x.tick(), 0);
        }
        Due.is("those that are not kept", x.tick(), 2);
        Due.is("the first", x.frame(0, 0, 2), 0);
        Due.is("the third", x.frame(0, 1, 2), 2);
        x.carry(0, 0, 0);
        x.carry(1, 0, 0);
        Due.is("BASE", x.state(0, 2), 2);
        Due.is("one kept still", x.state(0, 9), 1);
        // Bits for pieces that are not made yet keep nothing.
        Due.noise(x, 0, Due.framed(64 + 2, 255));
        Due.is("below NEXT alone", x.state(0, 9), 1);
        Due.noise(x, 0, Due.framed(64 + 4, 255));
        Due.is("all known", x.state(0, 2), 4);
        Due.is("none kept", x.state(0, 9), 0);
        Due.give(x, 0, Due.full(16, 0));
        x.tick();
        Due.is("new pieces are not kept", x.state(0, 9), 0);
        Due.noise(x, 0, Due.framed(64 + 3, 255));
        Due.is("an OLD one keeps nothing", x.state(0, 9), 0);
        Due.is("it is OLD", x.count(6), 1);
        // BASE itself may be kept: told ahead, then it becomes BASE.
        Due.noise(x, 0, Due.framed(64 + 4, 1));
        Due.noise(x, 0, Due.framed(64 + 5, 0));
        Due.is("BASE is kept", x.state(0, 9), 1);
        // Two bytes of bits.
        SerialLink y = new SerialLink();
        y.open(2, 40, 20, 1, 1);
        Due.give(y, 0, Due.full(20, 0));
        y.tick();
        Due.noise(y, 0, Due.framed(64, 0x80, 0x01, 0x04));
        Due.is("kept by each byte", y.state(0, 9), 3);
        Due.is("tick", y.tick(), 17);
        int[] kept = {8, 9, 19};
        for (int k = 20; k < 37; k++) {
            for (int p : kept) {
                Due.is("not " + p, y.frame(0, k, 2) == p, false);
            }
        }
    }

    private static void noRoom() {
        SerialLink x = new SerialLink();
        x.open(1, 64, 41, 1, 1);
        Due.give(x, 0, Due.full(60, 0));
        Due.is("tick: those without room, too", x.tick(), 41);
        Due.is("line", x.line(0), 40);
        countsAre("no room", x, 41, 0, 1, 0, 0, 0, 0, 0, 0, 1);
        Due.is("NEXT", x.state(0, 3), 41);
        Due.is("all again without room", x.tick(), 41);
        countsAre("no room", x, 82, 41, 42, 0, 0, 0, 0, 0, 0, 2);
        Due.is("frame 40", x.frame(0, 40, 0), -1);
        Due.is("frame 39", x.frame(0, 39, 2), 39);
        // The ring of the line goes round.
        for (int i = 0; i < 30; i++) {
            Due.is("carry", x.carry(0, 0, 0), 39 - i);
        }
        Due.is("30 known", x.line(1), 30);
        Due.is("tick", x.tick(), 41);
        Due.is("line", x.line(0), 40);
        Due.is("first", x.frame(0, 0, 2), 30);
        Due.is("the 10th behind", x.frame(0, 10, 2), 0);
        Due.is("laid before", x.frame(0, 10, 4), 1);
        Due.is("last", x.frame(0, 39, 2), 29);
        // KNOWNS without room.
        SerialLink y = new SerialLink();
        y.open(1, 8, 4, 1, 50);
        Due.give(y, 0, Due.bytes(1));
        y.tick();
        for (int i = 0; i < 41; i++) {
            y.carry(0, 2, 0);
        }
        Due.is("40 known", y.line(1), 40);
        countsAre("no room for a KNOWN", y, 42, 0, 1, 0, 41, 40, 0, 0, 0, 1);
    }

    private static void round() {
        SerialLink x = new SerialLink();
        x.open(1, 8, 4, 2, 3);
        Due.is("round of nothing", x.round(), 0);
        Due.is("a round has a TICK", x.count(9), 1);
        Due.give(x, 0, Due.full(20, 0));
        Due.give(x, 1, Due.full(3, 90));
        Due.is("round", x.round(), 4 + 2 + 6);
        Due.is("the lines are empty", x.line(0) + x.line(1), 0);
        Due.is("round", x.round(), 8);
        Due.is("round", x.round(), 4);
        Due.is("round", x.round(), 0);
        Due.takenIs("round", x, 1, Due.full(20, 0));
        Due.takenIs("round", x, 0, Due.full(3, 90));
        countsAre("round", x, 24, 0, 0, 0, 24, 0, 0, 0, 0, 5);
        // LINE 0 first: a full line 0 fills line 1 ahead of anything there.
        SerialLink y = new SerialLink();
        y.open(1, 64, 40, 1, 1);
        Due.give(y, 0, Due.full(40, 0));
        Due.give(y, 1, Due.full(40, 0));
        Due.is("round of two full lines", y.round(), 40 + 40 + 40);
        Due.is("KNOWNS without room", y.count(2), 40);
        Due.is("none is lost", y.count(3), 0);
        Due.is("the other way is known", y.state(1, 2), 40);
        Due.is("this way is not", y.state(0, 2), 0);
        Due.is("again", y.round(), 80);
        Due.is("now it is", y.state(0, 2), 40);
    }

    /** 3000 bytes taken by end 1, in fifty rounds of one piece each. */
    private static SerialLink full(int mode) {
        SerialLink x = new SerialLink();
        x.open(mode, 4, 1, 60, 50);
        Due.tape(x, Due.full(1000, 0));
        x.stuff();
        for (int i = 0; i < 3; i++) {
            x.take();
            x.cut(1000);
            x.give(0);
        }
        for (int i = 0; i < 50; i++) {
            x.round();
        }
        Due.is("3000 taken", x.state(1, 5), 3000);
        Due.is("wants", x.state(1, 4), 50);
        Due.is("the last", x.taken(1, 2999) > 0, true);
        Due.is("behind the last", x.taken(1, 3000), -1);
        return x;
    }

    private static void fullStream() {
        SerialLink x = full(1);
        Due.noise(x, 1, Due.framed(2, 77));
        Due.is("3001 is AGAIN", x.count(5), 1);
        Due.is("nothing is laid", x.line(1), 0);
        Due.is("still taken as a body", x.count(4), 101);
        Due.is("wants the same", x.state(1, 4), 50);
        Due.noise(x, 1, Due.framed(1, 77));
        Due.is("another number is AGAIN", x.count(5), 2);
        Due.is("and a KNOWN is laid", x.line(1), 1);
        x = full(0);
        Due.noise(x, 1, Due.framed(2, 77));
        Due.is("3001 is AGAIN", x.count(5), 1);
        Due.is("nothing is laid", x.line(1), 0);
    }

    private static void fullStreamHeld() {
        SerialLink x = full(2);
        Due.noise(x, 1, Due.framed(2, 77));
        Due.is("3001 is not AGAIN", x.count(5), 0);
        Due.is("it stays held", x.state(1, 6), 1);
        Due.is("a KNOWN is laid", x.line(1), 1);
        Due.is("of the same wanted", x.frame(1, 0, 2), 2);
        Due.is("wants the same", x.state(1, 4), 50);
        Due.is("3000", x.state(1, 5), 3000);
        Due.noise(x, 1, Due.framed(2, 77));
        Due.is("now it is AGAIN", x.count(5), 1);
        Due.is("and a KNOWN is laid", x.line(1), 2);
    }
}
