/** The edges of promises 7 tick and 9 round, and of the terms A TICK, LINE, NO ROOM, PIECES. */
public final class EdgeTickTest {
    public static void main(String[] args) {
        nothingToLay();
        piecesOfTheNextSize();
        nextLessThanWindowAboveBase();
        noPiecesFromBaseToNext();
        timeoutOrMoreAboveItsTimer();
        theTimerIsTheClock();
        theTimerIfItIsBase();
        theTimerByAKnown();
        allOfThemInOrder();
        ownTimers();
        keptOnesAreNotLaid();
        endZeroThenEndOne();
        lateOnesAheadOfNewOnes();
        numbersWrapAround();
        fortyFrames();
        roomAgain();
        noRoomForAKnown();
        laidBeforeWithoutRoom();
        roundOfNothing();
        roundTakesLineZeroFirst();
        roundOfFullLines();
        roundEndsWhatWasHeard();
        Due.end("EdgeTickTest");
    }

    private static SerialLink opened(int mode, int space, int window, int size, int timeout, int given) {
        SerialLink x = new SerialLink();
        x.open(mode, space, window, size, timeout);
        Due.give(x, 0, Due.full(given, 0));
        return x;
    }

    private static void numbersAre(String call, SerialLink x, int line, int... want) {
        Due.is(call + ", frames", x.line(line), want.length);
        for (int k = 0; k < want.length; k++) {
            Due.is(call + ", number of frame " + k, x.frame(line, k, 2), want[k]);
        }
    }

    private static void lose(SerialLink x, int line) {
        for (int n = x.line(line); n > 0; n--) {
            x.carry(line, 1, 0);
        }
    }

    private static int[] known(int mode, int number) {
        return mode == 2 ? Due.framed(64 + number, 0) : Due.framed(64 + number);
    }

    /** Nothing given: a TICK counts and the CLOCKS go on, nothing else. */
    private static void nothingToLay() {
        for (int mode = 0; mode < 3; mode++) {
            SerialLink x = opened(mode, 8, 1, 5, 1, 0);
            for (int i = 1; i <= 60; i++) {
                Due.is("tick of nothing", x.tick(), 0);
                Due.is("TICKS", x.count(9), i);
                Due.is("CLOCK of end 0", x.state(0, 7), i);
                Due.is("CLOCK of end 1", x.state(1, 7), i);
            }
            Due.is("nothing laid", x.line(0) + x.line(1) + x.count(0), 0);
        }
    }

    /** "a PIECE is made of the next SIZE of them (or what there is)" */
    private static void piecesOfTheNextSize() {
        int[][] loads = {{1, 1}, {4, 4}, {5, 5}, {6, 5, 1}, {10, 5, 5}, {11, 5, 5, 1}};
        for (int mode = 1; mode < 3; mode++) {
            for (int[] l : loads) {
                SerialLink x = opened(mode, 8, 4, 5, 9, l[0]);
                Due.is("tick of " + l[0], x.tick(), l.length - 1);
                for (int k = 1; k < l.length; k++) {
                    Due.is("LOAD of piece " + k + " of " + l[0], x.frame(0, k - 1, 3), l[k]);
                }
                Due.is("bytes in PIECES", x.state(0, 1), l[0]);
                Due.is("no more bytes, no PIECE", x.tick(), 0);
            }
        }
        // A short PIECE stays short, what is given later comes in the next one.
        SerialLink x = opened(1, 8, 4, 5, 2, 2);
        x.tick();
        Due.give(x, 0, Due.full(7, 50));
        Due.is("behind a short PIECE", x.tick(), 2);
        Due.is("all again", x.tick(), 3);
        int[] loads3 = {2, 5, 2, 2, 5, 2};
        for (int k = 0; k < 6; k++) {
            Due.is("LOAD of frame " + k, x.frame(0, k, 3), loads3[k]);
        }
        Due.frameIs("the same bytes again", x, 0, 4, Due.framed(Due.join(Due.bytes(1), Due.full(5, 50))));
        Due.frameIs("the same bytes again", x, 0, 5, Due.framed(Due.join(Due.bytes(2), Due.full(2, 55))));
        // The last of 3000 bytes.
        SerialLink y = opened(1, 64, 60, 50, 50, 1200);
        Due.give(y, 0, Due.full(1200, 0));
        Due.give(y, 0, Due.full(600, 0));
        Due.is("60 PIECES of 50 are 3000", y.tick(), 60);
        Due.is("bytes in PIECES", y.state(0, 1), 3000);
        Due.is("and no more", y.tick(), 0);
    }

    /** "as long as NEXT is less than WINDOW above BASE" */
    private static void nextLessThanWindowAboveBase() {
        int[][] windows = {{0, 1}, {1, 1}, {1, 7}, {2, 1}, {2, 4}};
        for (int[] w : windows) {
            SerialLink x = opened(w[0], 8, w[1], 1, 50, 30);
            Due.is("WINDOW " + w[1], x.tick(), w[1]);
            Due.is("the WINDOW is full", x.tick(), 0);
            lose(x, 0);
            Due.noise(x, 0, w[0] == 2 && w[1] == 1 ? Due.framed(65) : known(w[0], 1));
            Due.is("BASE is 1", x.state(0, 2), 1);
            Due.is("one more", x.tick(), 1);
            numbersAre("one more", x, 0, w[1] % 8);
            Due.is("NEXT is WINDOW above BASE", x.state(0, 3) - x.state(0, 2), w[1]);
            Due.is("the WINDOW is full again", x.tick(), 0);
        }
    }

    /** "if there are PIECES from BASE to NEXT": when all are known, nothing is laid, however late it is. */
    private static void noPiecesFromBaseToNext() {
        for (int mode = 0; mode < 3; mode++) {
            SerialLink x = opened(mode, 8, 1, 9, 2, 9);
            x.round();
            Due.is("BASE is NEXT", x.state(0, 2), x.state(0, 3));
            for (int i = 0; i < 9; i++) {
                Due.is("nothing is laid again", x.tick(), 0);
            }
            // A new PIECE is BASE: its time begins with it.
            Due.give(x, 0, Due.bytes(7));
            Due.is("a new one", x.tick(), 1);
            Due.is("1 above its TIMER", x.tick(), 0);
            Due.is("2 above its TIMER", x.tick(), 1);
        }
    }

    /** "and the CLOCK is TIMEOUT or more above its TIMER" */
    private static void timeoutOrMoreAboveItsTimer() {
        for (int mode = 0; mode < 3; mode++) {
            for (int timeout = 1; timeout <= 50; timeout++) {
                SerialLink x = opened(mode, 8, 1, 9, timeout, 9);
                x.tick();
                for (int above = 1; above < timeout; above++) {
                    Due.is("TIMEOUT " + timeout + ", " + above, x.tick(), 0);
                }
                Due.is("TIMEOUT " + timeout + ", as much", x.tick(), 1);
                Due.is("laid again", x.count(1), 1);
                Due.is("laid before", x.frame(0, 1, 4), 1);
                Due.is("not laid before", x.frame(0, 0, 4), 0);
            }
        }
        // "or more": the one timer is far behind when a later PIECE is left; TIMEOUT above by the KNOWN's CLOCK.
        SerialLink x = opened(1, 8, 4, 1, 5, 2);
        x.tick();
        x.tick();
        x.tick();
        Due.noise(x, 0, known(1, 1));
        for (int i = 0; i < 4; i++) {
            Due.is("not late since the KNOWN", x.tick(), 0);
        }
        Due.is("late since the KNOWN", x.tick(), 1);
    }

    /** "all of them are laid again, in order, and the TIMER is the CLOCK" */
    private static void theTimerIsTheClock() {
        SerialLink x = opened(1, 8, 4, 1, 3, 2);
        int[] due = {2, 0, 0, 2, 0, 0, 2, 0, 0, 2};
        for (int i = 0; i < due.length; i++) {
            Due.is("tick " + (i + 1), x.tick(), due[i]);
        }
    }

    /** "(MODES 0, 1: the TIMER, if it is BASE)" */
    private static void theTimerIfItIsBase() {
        SerialLink x = opened(1, 8, 4, 1, 3, 1);
        Due.is("BASE at 1", x.tick(), 1);
        Due.give(x, 0, Due.bytes(2));
        Due.is("another at 2", x.tick(), 1);
        Due.give(x, 0, Due.bytes(3));
        Due.is("another at 3", x.tick(), 1);
        Due.give(x, 0, Due.bytes(4));
        Due.is("at 4, 3 above BASE's: three again and a new one", x.tick(), 4);
        Due.is("at 5", x.tick(), 0);
        Due.is("at 6", x.tick(), 0);
        Due.is("at 7", x.tick(), 4);
        numbersAre("in order", x, 0, 0, 1, 2, 0, 1, 2, 3, 0, 1, 2, 3);
    }

    /** "if d is above 0 (MODES 0, 1) the TIMER is the CLOCK": d 0 leaves it, and so does one that is OLD. */
    private static void theTimerByAKnown() {
        for (int number : new int[] {0, 3}) {
            SerialLink x = opened(1, 8, 4, 1, 2, 2);
            x.tick();
            x.tick();
            Due.noise(x, 0, known(1, number));
            Due.is("d 0, or OLD: the TIMER stays", x.tick(), 2);
            Due.is("OLD", x.count(6), number == 3 ? 1 : 0);
        }
        SerialLink x = opened(1, 8, 4, 1, 2, 2);
        x.tick();
        x.tick();
        Due.noise(x, 0, known(1, 1));
        Due.is("d 1: the TIMER is the CLOCK", x.tick(), 0);
        Due.is("then it is late", x.tick(), 1);
        // By MODE 2 a KNOWN sets no TIMER.
        SerialLink y = opened(2, 8, 4, 1, 2, 2);
        y.tick();
        y.tick();
        Due.noise(y, 0, known(2, 1));
        Due.is("MODE 2: the other one's own TIMER", y.tick(), 1);
        numbersAre("MODE 2", y, 0, 0, 1, 1);
    }

    private static void allOfThemInOrder() {
        SerialLink x = opened(1, 4, 3, 2, 1, 6);
        Due.is("three", x.tick(), 3);
        Due.noise(x, 0, known(1, 2));
        lose(x, 0);
        Due.give(x, 0, Due.full(9, 60));
        Due.is("one again and two", x.tick(), 3);
        numbersAre("from BASE on", x, 0, 2, 3, 0);
        lose(x, 0);
        Due.is("three again", x.tick(), 3);
        numbersAre("in order, across the ring", x, 0, 2, 3, 0);
        Due.frameIs("the bytes of piece 4", x, 0, 2, Due.framed(Due.join(Due.bytes(0), Due.full(2, 62))));
    }

    /** "MODE 2: each of these .. whose own TIMER is TIMEOUT or more behind the CLOCK" */
    private static void ownTimers() {
        SerialLink x = opened(2, 8, 4, 1, 3, 1);
        int[] due = {1, 1, 1, 2, 1, 1, 2, 1, 1, 2};
        int[] given = {0, 1, 1, 1, 0, 0, 0, 0, 0, 0};
        for (int i = 0; i < due.length; i++) {
            Due.give(x, 0, Due.full(given[i], 70 + i));
            Due.is("tick " + (i + 1), x.tick(), due[i]);
        }
        numbersAre("each by itself", x, 0, 0, 1, 2, 0, 3, 1, 2, 0, 3, 1, 2, 0, 3);
    }

    /** "each of these that is not KEPT" */
    private static void keptOnesAreNotLaid() {
        SerialLink x = opened(2, 8, 4, 1, 1, 4);
        x.tick();
        lose(x, 0);
        Due.noise(x, 0, Due.framed(64, 5));
        Due.is("two are KEPT", x.state(0, 9), 2);
        Due.is("the two others", x.tick(), 2);
        numbersAre("the two others", x, 0, 0, 2);
        lose(x, 0);
        // BASE may be KEPT itself: it is not laid then.
        Due.noise(x, 0, Due.framed(64 + 1, 0));
        Due.is("BASE is 1", x.state(0, 2), 1);
        Due.is("BASE is KEPT", x.state(0, 9), 2);
        Due.is("the one other", x.tick(), 1);
        numbersAre("the one other", x, 0, 2);
        lose(x, 0);
        Due.noise(x, 0, Due.framed(64 + 1, 1));
        Due.is("all are KEPT", x.state(0, 9), 3);
        Due.is("nothing is laid", x.tick(), 0);
        // What was KEPT of a number is not so of its next PIECE.
        Due.noise(x, 0, Due.framed(64 + 4, 0));
        for (int i = 0; i < 3; i++) {
            Due.give(x, 0, Due.full(4, 10 * i));
            Due.is("four new ones", x.tick(), 4);
            Due.is("all again", x.tick(), 4);
            Due.noise(x, 0, Due.framed(64 + (8 + 4 * i) % 8, 0));
            Due.is("all are known", x.state(0, 2), 8 + 4 * i);
            lose(x, 0);
        }
    }

    /** "A TICK, for end 0, then for end 1": each lays to its own LINE. */
    private static void endZeroThenEndOne() {
        SerialLink x = opened(1, 8, 4, 5, 9, 10);
        Due.give(x, 1, Due.full(5, 90));
        Due.is("both", x.tick(), 3);
        numbersAre("LINE 0", x, 0, 0, 1);
        numbersAre("LINE 1", x, 1, 0);
        Due.frameIs("end 0 lays to LINE 0", x, 0, 0, Due.framed(Due.join(Due.bytes(0), Due.full(5, 0))));
        Due.frameIs("end 1 lays to LINE 1", x, 1, 0, Due.framed(Due.join(Due.bytes(0), Due.full(5, 90))));
        x.carry(0, 0, 0);
        Due.is("LINE 0 leads to end 1", x.state(1, 5), 5);
        x.carry(1, 0, 0);
        Due.is("LINE 1 leads to end 0", x.state(0, 5), 5);
    }

    /** "Then": what is laid again comes ahead of what is new. */
    private static void lateOnesAheadOfNewOnes() {
        for (int mode = 1; mode < 3; mode++) {
            SerialLink x = opened(mode, 8, 4, 1, 1, 2);
            x.tick();
            Due.give(x, 0, Due.full(2, 9));
            Due.is("two again and two", x.tick(), 4);
            numbersAre("MODE " + mode, x, 0, 0, 1, 0, 1, 2, 3);
            for (int k = 0; k < 6; k++) {
                Due.is("laid before", x.frame(0, k, 4), k == 2 || k == 3 ? 1 : 0);
            }
        }
    }

    /** "the number of a PIECE is that modulo SPACE": with a WINDOW that goes across. */
    private static void numbersWrapAround() {
        int[][] rings = {{1, 2, 1}, {1, 3, 2}, {1, 64, 40}, {1, 41, 40}, {1, 63, 5}, {2, 2, 1}, {2, 3, 1}, {2, 5, 2}, {2, 64, 32},
            {2, 63, 31}, {0, 2, 1}, {0, 64, 1}};
        for (int[] r : rings) {
            SerialLink x = opened(r[0], r[1], r[2], 1, 50, 200);
            for (int i = 0; i < 200; i++) {
                x.round();
            }
            String told = "MODE " + r[0] + ", SPACE " + r[1] + ", WINDOW " + r[2];
            Due.takenIs(told, x, 1, Due.full(200, 0));
            Due.is(told + ", BASE", x.state(0, 2), 200);
            Due.is(told + ", NEXT", x.state(0, 3), 200);
            Due.is(told + ", WANTED", x.state(1, 4), 200);
            Due.is(told + ", none twice", x.count(5) + x.count(6) + x.count(7), 0);
        }
    }

    /** "each has up to 40 FRAMES in the order in which they were laid (one that is laid when there are 40 is gone)" */
    private static void fortyFrames() {
        for (int n = 39; n <= 42; n++) {
            SerialLink x = opened(1, 64, 63, 1, 50, n);
            Due.is("those for which there was NO ROOM, too", x.tick(), n);
            int there = Math.min(n, 40);
            Due.is("frames of " + n, x.line(0), there);
            Due.is("NO ROOM", x.count(2), n - there);
            Due.is("laid", x.count(0), n);
            Due.is("lost is another thing", x.count(3), 0);
            for (int k = 0; k < there; k++) {
                Due.is("frame " + k, x.frame(0, k, 2), k);
            }
            Due.is("frame behind the last", x.frame(0, there, 0), -1);
            Due.is("the other LINE has its own room", x.line(1), 0);
        }
    }

    /** One is gone from the LINE: there is room for one; the first places are used again. */
    private static void roomAgain() {
        SerialLink x = opened(1, 64, 63, 1, 1, 41);
        x.tick();
        for (int turn = 0; turn < 85; turn++) {
            int last = x.frame(0, 39, 2);
            int second = x.frame(0, 1, 2);
            x.carry(0, 1, 0);
            Due.is("39", x.line(0), 39);
            Due.is("the second is the first", x.frame(0, 0, 2), second);
            Due.is("the last is one ahead", x.frame(0, 38, 2), last);
            Due.is("no 40th", x.frame(0, 39, 2), -1);
            Due.is("all again", x.tick(), 41);
            Due.is("40", x.line(0), 40);
            Due.is("the first of these alone had room", x.frame(0, 39, 2), 0);
        }
        Due.is("NO ROOM", x.count(2), 1 + 85 * 40);
    }

    /** A KNOWN, too, is gone when there are 40: what was heard counts all the same. */
    private static void noRoomForAKnown() {
        for (int mode = 0; mode < 3; mode++) {
            SerialLink x = opened(mode, 8, 1, 1, 50, 1);
            x.tick();
            for (int i = 1; i <= 42; i++) {
                Due.is("heard, and stays", x.carry(0, 2, 0), 1);
                Due.is("KNOWNS", x.line(1), Math.min(i, 40));
                Due.is("NO ROOM", x.count(2), Math.max(0, i - 40));
                Due.is("laid", x.count(0), 1 + i);
                Due.is("none of DATA again", x.count(1), 0);
            }
            Due.takenIs("taken once", x, 1, Due.full(1, 0));
            Due.is("AGAIN", x.count(5), 41);
        }
    }

    /** "1 DATA laid again": also when the first time, or this time, there was NO ROOM. */
    private static void laidBeforeWithoutRoom() {
        SerialLink x = opened(1, 64, 63, 1, 1, 41);
        x.tick();
        lose(x, 0);
        x.tick();
        Due.is("41 again", x.count(1), 41);
        lose(x, 0);
        Due.noise(x, 0, known(1, 40));
        x.tick();
        numbersAre("the 41st had no room till now", x, 0, 40);
        Due.is("and was laid before", x.frame(0, 0, 4), 1);
    }

    private static void roundOfNothing() {
        SerialLink x = new SerialLink();
        Due.is("round of nothing", x.round(), 0);
        Due.is("its TICK", x.count(9), 1);
        Due.is("its CLOCK", x.state(0, 7) + x.state(1, 7), 2);
        Due.is("round of one", heardOf(1), 2);
    }

    private static int heardOf(int given) {
        return opened(1, 8, 4, 1, 9, given).round();
    }

    /** "the first one of LINE 0, or, if that has none, of LINE 1, is heard" */
    private static void roundTakesLineZeroFirst() {
        // Two DATA of LINE 0 are heard ahead of the DATA of LINE 1, so both KNOWNS lie behind that.
        SerialLink x = opened(1, 8, 4, 1, 9, 2);
        Due.give(x, 1, Due.full(40, 9));
        Due.is("round", x.round(), 2 + 4 + 2 + 4);
        Due.is("all known", x.state(0, 2) + x.state(1, 2), 2 + 4);
        // With one place left on LINE 1 only LINE 0's first KNOWN has room.
        SerialLink y = opened(1, 64, 63, 1, 50, 3);
        Due.give(y, 1, Due.full(39, 9));
        Due.is("round", y.round(), 3 + 39 + 1 + 39);
        Due.is("NO ROOM", y.count(2), 2);
        Due.is("BASE of end 0", y.state(0, 2), 1);
        Due.is("BASE of end 1", y.state(1, 2), 39);
        Due.is("WANTED of end 1", y.state(1, 4), 3);
    }

    /** "as long as there is a FRAME": 40 on each LINE, and a KNOWN for each of LINE 1's. */
    private static void roundOfFullLines() {
        for (int mode = 1; mode < 3; mode++) {
            SerialLink x = opened(mode, 64, 32, 1, 1, 32);
            Due.give(x, 1, Due.full(32, 9));
            x.tick();
            x.tick();
            Due.is("full lines", x.line(0) + x.line(1), 80);
            Due.is("round", x.round(), 120);
            Due.is("none is left", x.line(0) + x.line(1), 0);
            Due.is("all of LINE 1 are known", x.state(1, 2), 32);
            Due.is("none of LINE 0", x.state(0, 2), 0);
            Due.takenIs("LINE 0", x, 1, Due.full(32, 0));
            Due.takenIs("LINE 1", x, 0, Due.full(32, 9));
        }
    }

    /** A round hears on where an end stood: bytes ahead spoil the first frame, and no other. */
    private static void roundEndsWhatWasHeard() {
        SerialLink x = opened(1, 8, 4, 1, 2, 2);
        x.noise(1, 7, 1);
        Due.is("two DATA and one KNOWN", x.round(), 3);
        Due.is("the first is WRONG", x.count(7), 1);
        Due.is("the second is AGAIN", x.count(5), 1);
        Due.is("nothing is FORGED", x.count(8), 0);
        Due.is("nothing is left of it", x.state(1, 8), 0);
        Due.is("not late", x.round(), 0);
        Due.is("late: two and two", x.round(), 4);
        Due.takenIs("at last", x, 1, Due.full(2, 0));
    }
}
