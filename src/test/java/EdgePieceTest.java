/** The edges of the terms DATA that is taken, KNOWN that is taken, held, KEPT, AGAIN, OLD, 3000 bytes TAKEN. */
public final class EdgePieceTest {
    public static void main(String[] args) {
        theNumberWanted();
        wantedWrapsAround();
        againLaysAKnown();
        belowWindow();
        belowWindowWrapsAround();
        thatPieceIsHeld();
        takenAsLongAsHeld();
        heldLoadsStayTheirOwn();
        knownBits();
        knownBitsWrapAround();
        upTo3000Taken();
        above3000GoingBack();
        above3000EachByItself();
        heldOnesBehindOneWithoutRoom();
        notAboveNextLessBase();
        knownWrapsAround();
        knownWithNothingInPieces();
        keptBelowNext();
        keptByEachBit();
        keptGoesWithBase();
        oldKeepsNothing();
        bothWaysAreApart();
        Due.end("EdgePieceTest");
    }

    private static SerialLink opened(int mode, int space, int window, int size) {
        SerialLink x = new SerialLink();
        Due.is("open", x.open(mode, space, window, size, 50), true);
        return x;
    }

    private static void data(SerialLink x, int end, int number, int... load) {
        Due.noise(x, end, Due.framed(Due.join(Due.bytes(number), load)));
    }

    private static void known(SerialLink x, int end, int number, int... bits) {
        Due.noise(x, end, Due.framed(Due.join(Due.bytes(64 + number), bits)));
    }

    private static int lastKnown(SerialLink x, int line) {
        return x.frame(line, x.line(line) - 1, 2);
    }

    private static void lastKnownIs(String call, SerialLink x, int line, int number, int... bits) {
        Due.frameIs(call, x, line, x.line(line) - 1, Due.framed(Due.join(Due.bytes(64 + number), bits)));
    }

    /** "if s is the number of the PIECE that it WANTS, its LOAD is TAKEN, and it WANTS the next one; else .. AGAIN" */
    private static void theNumberWanted() {
        for (int mode = 0; mode < 2; mode++) {
            for (int wanted = 0; wanted < 8; wanted++) {
                for (int number = 0; number < 8; number++) {
                    SerialLink x = opened(mode, 8, 1, 3);
                    for (int piece = 0; piece < wanted; piece++) {
                        data(x, 1, piece, 100 + piece);
                    }
                    data(x, 1, number, 7, 8);
                    boolean due = number == wanted;
                    Due.is("WANTED", x.state(1, 4), due ? wanted + 1 : wanted);
                    Due.is("bytes TAKEN", x.state(1, 5), due ? wanted + 2 : wanted);
                    Due.is("AGAIN", x.count(5), due ? 0 : 1);
                    Due.is("BODIES taken", x.count(4), wanted + 1);
                    Due.is("a KNOWN in any case", x.line(1), wanted + 1);
                    Due.is("of the one WANTED", lastKnown(x, 1), (due ? wanted + 1 : wanted) % 8);
                    Due.is("nothing is held", x.state(1, 6), 0);
                }
            }
        }
    }

    private static void wantedWrapsAround() {
        for (int mode = 0; mode < 3; mode++) {
            for (int space : new int[] {2, 3, 64}) {
                SerialLink x = opened(mode, space, 1, 3);
                for (int piece = 0; piece < 200; piece++) {
                    data(x, 0, piece % space, 1 + piece);
                    Due.is("WANTED goes on", x.state(0, 4), piece + 1);
                    Due.is("its number is in the ring", lastKnown(x, 0), (piece + 1) % space);
                    x.carry(0, 1, 0);
                    data(x, 0, piece % space, 99);
                    Due.is("the one before is AGAIN", x.count(5), piece + 1);
                    x.carry(0, 1, 0);
                }
                Due.is("as many bytes", x.state(0, 5), 200);
                Due.is("the last", x.taken(0, 199), 200);
            }
        }
    }

    /** "In any case a KNOWN is laid: the number of the one WANTED" */
    private static void againLaysAKnown() {
        for (int mode = 0; mode < 3; mode++) {
            SerialLink x = opened(mode, 8, 1, 3);
            data(x, 1, 5, 1);
            Due.is("AGAIN", x.count(5), 1);
            Due.is("a KNOWN", x.line(1), 1);
            Due.is("sort", x.frame(1, 0, 1), 1);
            Due.is("of the one WANTED", x.frame(1, 0, 2), 0);
            Due.is("it is no DATA that was laid before", x.frame(1, 0, 4), 0);
            Due.is("on its own LINE", x.line(0), 0);
        }
    }

    /** "if d is not below WINDOW .. it is AGAIN; else it is held" */
    private static void belowWindow() {
        for (int window = 1; window <= 32; window++) {
            SerialLink x = opened(2, 64, window, 3);
            for (int number = 63; number > 0; number--) {
                int held = x.state(1, 6);
                int again = x.count(5);
                data(x, 1, number, number);
                boolean below = number < window;
                Due.is("WINDOW " + window + ", d " + number + ", held", x.state(1, 6), held + (below ? 1 : 0));
                Due.is("WINDOW " + window + ", d " + number + ", AGAIN", x.count(5), again + (below ? 0 : 1));
                x.carry(1, 1, 0);
            }
            Due.is("nothing TAKEN yet", x.state(1, 5), 0);
            data(x, 1, 0, 77);
            Due.is("all of the WINDOW TAKEN", x.state(1, 5), window);
            Due.is("all of the WINDOW", x.state(1, 4), window);
            Due.is("none held", x.state(1, 6), 0);
            data(x, 1, window % 64, 88);
            Due.is("d 0", x.state(1, 5), window + 1);
        }
    }

    /** "d is s less the number WANTED, modulo SPACE" */
    private static void belowWindowWrapsAround() {
        int[][] rings = {{2, 1}, {3, 1}, {4, 2}, {5, 2}, {7, 3}, {63, 31}, {64, 32}};
        for (int[] r : rings) {
            SerialLink x = opened(2, r[0], r[1], 3);
            for (int wanted = 0; wanted < 2 * r[0] + 1; wanted++) {
                for (int d = r[0] - 1; d > 0; d--) {
                    int held = x.state(1, 6);
                    data(x, 1, (wanted + d) % r[0], d);
                    Due.is("SPACE " + r[0] + ", d " + d, x.state(1, 6), Math.max(held, d < r[1] ? r[1] - d : 0));
                    x.carry(1, 1, 0);
                }
                // One PIECE at a time: what is held would be taken with it, so it is opened anew.
                Due.is("held up to the WINDOW", x.state(1, 6), r[1] - 1);
                x = opened(2, r[0], r[1], 3);
                for (int piece = 0; piece <= wanted; piece++) {
                    data(x, 1, piece % r[0], 1);
                    x.carry(1, 1, 0);
                }
                Due.is("WANTED", x.state(1, 4), wanted + 1);
            }
        }
    }

    /** "or that PIECE is held, it is AGAIN": the bytes that came first stay */
    private static void thatPieceIsHeld() {
        SerialLink x = opened(2, 8, 4, 3);
        data(x, 1, 2, 21, 22);
        Due.is("held", x.state(1, 6), 1);
        data(x, 1, 2, 91, 92, 93);
        Due.is("AGAIN", x.count(5), 1);
        Due.is("held once", x.state(1, 6), 1);
        Due.is("a KNOWN for each", x.line(1), 2);
        lastKnownIs("its bit", x, 1, 0, 2);
        data(x, 1, 0, 1);
        data(x, 1, 1, 11);
        Due.takenIs("the bytes that came first", x, 1, Due.bytes(1, 11, 21, 22));
        data(x, 1, 2, 99);
        Due.is("when it is TAKEN it is AGAIN by d", x.count(5), 2);
    }

    /** "then, as long as the one WANTED is held, that is TAKEN and the next one WANTED" */
    private static void takenAsLongAsHeld() {
        SerialLink x = opened(2, 16, 8, 3);
        for (int number : new int[] {7, 5, 4, 2, 1}) {
            data(x, 1, number, 10 * number);
        }
        Due.is("five held", x.state(1, 6), 5);
        data(x, 1, 0, 1);
        Due.takenIs("up to the gap", x, 1, Due.bytes(1, 10, 20));
        Due.is("three held", x.state(1, 6), 3);
        Due.is("WANTED", x.state(1, 4), 3);
        data(x, 1, 3, 30);
        Due.takenIs("up to the next gap", x, 1, Due.bytes(1, 10, 20, 30, 40, 50));
        data(x, 1, 6, 60);
        Due.takenIs("all", x, 1, Due.bytes(1, 10, 20, 30, 40, 50, 60, 70));
        Due.is("none held", x.state(1, 6), 0);
        Due.is("WANTED", x.state(1, 4), 8);
    }

    /** Each held PIECE has its own bytes, of any length up to SIZE, across the ring too. */
    private static void heldLoadsStayTheirOwn() {
        for (int space : new int[] {63, 64}) {
            int window = space / 2;
            SerialLink x = opened(2, space, window, 60);
            int[] all = new int[0];
            for (int turn = 0; turn < 3; turn++) {
                int[][] loads = new int[window][];
                int first = turn * window;
                for (int d = window - 1; d >= 0; d--) {
                    loads[d] = Due.full(turn == 0 ? 60 : 1 + (d * 7 + turn) % 9, d * 5 + turn);
                    data(x, 1, (first + d) % space, loads[d]);
                    x.carry(1, 1, 0);
                }
                all = Due.join(all, Due.join(loads));
                Due.takenIs("turn " + turn, x, 1, all);
            }
        }
    }

    /** "bit k (of byte k / 8 of the LOAD, bit k % 8) is 1 if the PIECE k + 1 behind the one WANTED is held" */
    private static void knownBits() {
        for (int window = 2; window <= 32; window++) {
            int bytes = (window - 1 + 7) / 8;
            for (int k = 0; k < window - 1; k++) {
                SerialLink x = opened(2, 64, window, 3);
                data(x, 1, k + 1, 1);
                int[] bits = new int[bytes];
                bits[k / 8] = 1 << k % 8;
                lastKnownIs("WINDOW " + window + ", bit " + k, x, 1, 0, bits);
            }
            SerialLink x = opened(2, 64, window, 3);
            int[] bits = new int[bytes];
            for (int k = window - 2; k >= 0; k--) {
                data(x, 1, k + 1, 1);
                bits[k / 8] |= 1 << k % 8;
                lastKnownIs("WINDOW " + window + ", bits from " + k, x, 1, 0, bits);
                x.carry(1, 1, 0);
            }
            data(x, 1, 0, 1);
            lastKnownIs("WINDOW " + window + ", no bit", x, 1, window % 64, new int[bytes]);
        }
    }

    private static void knownBitsWrapAround() {
        SerialLink x = opened(2, 64, 32, 1);
        for (int wanted = 0; wanted < 140; wanted++) {
            data(x, 1, (wanted + 31) % 64, 1);
            lastKnownIs("the last bit", x, 1, wanted % 64, wanted == 0 ? Due.bytes(0, 0, 0, 64) : bitsAt(wanted));
            x.carry(1, 1, 0);
            if (wanted % 20 == 19) {
                x = opened(2, 64, 32, 1);
                for (int piece = 0; piece <= wanted; piece++) {
                    data(x, 1, piece % 64, 1);
                    x.carry(1, 1, 0);
                }
            } else {
                data(x, 1, wanted % 64, 1);
                x.carry(1, 1, 0);
            }
        }
    }

    /** Every PIECE 31 ahead since the last turn of twenty is held. */
    private static int[] bitsAt(int wanted) {
        int[] bits = new int[4];
        int since = wanted - wanted % 20;
        for (int from = since; from <= wanted; from++) {
            int k = from + 31 - wanted - 1;
            bits[k / 8] |= 1 << k % 8;
        }
        return bits;
    }

    /** End 1 has TAKEN n bytes, in PIECES of 60, the last one shorter. */
    private static SerialLink taken(int mode, int n) {
        SerialLink x = opened(mode, 64, mode == 2 ? 32 : 1, 60);
        int piece = 0;
        for (int left = n; left > 0; left -= 60) {
            data(x, 1, piece % 64, Due.full(Math.min(60, left), piece));
            x.carry(1, 1, 0);
            piece++;
        }
        Due.is("TAKEN", x.state(1, 5), n);
        Due.is("WANTED", x.state(1, 4), 50);
        return x;
    }

    /** "it has TAKEN bytes (at most 3000)" */
    private static void upTo3000Taken() {
        int[][] pairs = {{2999, 1}, {2990, 10}, {2941, 59}, {2980, 19}, {2950, 49}};
        for (int mode = 0; mode < 3; mode++) {
            for (int[] p : pairs) {
                SerialLink x = taken(mode, p[0]);
                data(x, 1, 50, Due.full(p[1], 200));
                Due.is("TAKEN", x.state(1, 5), p[0] + p[1]);
                Due.is("the last", x.taken(1, p[0] + p[1] - 1), Due.full(p[1], 200)[p[1] - 1]);
                Due.is("behind it", x.taken(1, p[0] + p[1]), -1);
                Due.is("WANTED", x.state(1, 4), 51);
                Due.is("a KNOWN", x.line(1), 1);
                Due.is("of the next one", lastKnown(x, 1), 51);
                Due.is("not AGAIN", x.count(5), 0);
                Due.is("none held", x.state(1, 6), 0);
            }
        }
    }

    /** "With more than 3000 bytes TAKEN: by MODES 0, 1 it is AGAIN, and nothing is laid" */
    private static void above3000GoingBack() {
        int[][] pairs = {{3000, 1}, {2999, 2}, {2990, 11}, {2941, 60}, {3000, 60}};
        for (int mode = 0; mode < 2; mode++) {
            for (int[] p : pairs) {
                SerialLink x = taken(mode, p[0]);
                int laid = x.count(0);
                int[] load = Due.full(p[1], 200);
                data(x, 1, 50, load);
                Due.is("TAKEN stays", x.state(1, 5), p[0]);
                Due.is("no byte of it", x.taken(1, p[0]), -1);
                Due.is("WANTED stays", x.state(1, 4), 50);
                Due.is("AGAIN", x.count(5), 1);
                Due.is("a BODY taken", x.count(4), 51);
                Due.is("nothing is laid", x.line(1), 0);
                Due.is("nothing is laid, counted", x.count(0), laid);
                data(x, 1, 49, load);
                Due.is("another number is AGAIN", x.count(5), 2);
                Due.is("and a KNOWN is laid", x.line(1), 1);
                Due.is("of the one WANTED", lastKnown(x, 1), 50);
                if (p[0] < 3000) {
                    data(x, 1, 50, Due.full(3000 - p[0], 5));
                    Due.is("one that fits is TAKEN", x.state(1, 5), 3000);
                }
            }
        }
    }

    /** "by MODE 2 it stays held", and "in any case a KNOWN is laid" */
    private static void above3000EachByItself() {
        int[][] pairs = {{3000, 1}, {2999, 2}, {2990, 11}, {2941, 60}, {3000, 60}};
        for (int[] p : pairs) {
            SerialLink x = taken(2, p[0]);
            int[] load = Due.full(p[1], 200);
            data(x, 1, 50, load);
            Due.is("TAKEN stays", x.state(1, 5), p[0]);
            Due.is("no byte of it", x.taken(1, p[0]), -1);
            Due.is("WANTED stays", x.state(1, 4), 50);
            Due.is("it stays held", x.state(1, 6), 1);
            Due.is("not AGAIN", x.count(5), 0);
            Due.is("a KNOWN is laid", x.line(1), 1);
            lastKnownIs("of the one WANTED, no bit", x, 1, 50, 0, 0, 0, 0);
            data(x, 1, 50, 9);
            Due.is("now it is AGAIN", x.count(5), 1);
            Due.is("a KNOWN, too", x.line(1), 2);
            Due.is("TAKEN stays", x.state(1, 5), p[0]);
        }
    }

    /** Those behind one that has no room stay held with it, though they had room. */
    private static void heldOnesBehindOneWithoutRoom() {
        SerialLink x = taken(2, 2990);
        data(x, 1, 51, 1);
        data(x, 1, 52, 2);
        data(x, 1, 50, Due.full(11, 3));
        Due.is("all stay held", x.state(1, 6), 3);
        Due.is("TAKEN stays", x.state(1, 5), 2990);
        lastKnownIs("bits of the two behind", x, 1, 50, 3, 0, 0, 0);
        // The one WANTED has room, the next one has not.
        SerialLink y = taken(2, 2990);
        data(y, 1, 51, Due.full(6, 3));
        data(y, 1, 50, Due.full(5, 7));
        Due.is("the one has", y.state(1, 5), 2995);
        Due.is("the next one stays held", y.state(1, 6), 1);
        Due.is("and is WANTED", y.state(1, 4), 51);
        SerialLink z = taken(2, 2990);
        data(z, 1, 51, Due.full(5, 3));
        data(z, 1, 50, Due.full(5, 7));
        Due.is("both have", z.state(1, 5), 3000);
        Due.is("none held", z.state(1, 6), 0);
        Due.is("WANTED", z.state(1, 4), 52);
    }

    private static SerialLink pieces(int mode, int space, int window, int pieces) {
        SerialLink x = opened(mode, space, window, 1);
        Due.give(x, 0, Due.full(pieces, 0));
        x.tick();
        Due.is("PIECES", x.state(0, 3), Math.min(pieces, window));
        return x;
    }

    /** "if d is not above NEXT less BASE: BASE is d more", "Else it is OLD" */
    private static void notAboveNextLessBase() {
        for (int mode = 0; mode < 3; mode++) {
            int most = mode == 0 ? 1 : mode == 1 ? 7 : 4;
            for (int pieces = 0; pieces <= most; pieces++) {
                for (int number = 0; number < 8; number++) {
                    int window = Math.max(1, most);
                    SerialLink x = pieces(mode, 8, window, pieces);
                    known(x, 0, number, new int[mode == 2 ? 1 : 0]);
                    String told = "MODE " + mode + ", NEXT " + pieces + ", KNOWN " + number;
                    Due.is(told + ", BASE", x.state(0, 2), number <= pieces ? number : 0);
                    Due.is(told + ", OLD", x.count(6), number <= pieces ? 0 : 1);
                    Due.is(told + ", NEXT stays", x.state(0, 3), pieces);
                    Due.is(told + ", a BODY taken", x.count(4), 1);
                    Due.is(told + ", nothing is laid", x.count(0), pieces);
                }
            }
        }
        // The widest WINDOW: all numbers but none are below it.
        SerialLink x = pieces(1, 64, 63, 63);
        known(x, 0, 63);
        Due.is("63 of 63", x.state(0, 2), 63);
        known(x, 0, 62);
        Due.is("62 is OLD now", x.count(6), 1);
        x = pieces(1, 64, 63, 62);
        known(x, 0, 63);
        Due.is("63 of 62 is OLD", x.count(6), 1);
        x = pieces(2, 64, 32, 32);
        known(x, 0, 33, 0, 0, 0, 0);
        Due.is("33 of 32 is OLD", x.count(6), 1);
        known(x, 0, 32, 0, 0, 0, 0);
        Due.is("32 of 32", x.state(0, 2), 32);
    }

    /** "d is a less BASE's number, modulo SPACE" */
    private static void knownWrapsAround() {
        int[][] rings = {{0, 2, 1}, {1, 2, 1}, {1, 3, 2}, {1, 8, 7}, {1, 64, 40}, {2, 3, 1}, {2, 5, 2}, {2, 64, 32}};
        for (int[] r : rings) {
            SerialLink x = pieces(r[0], r[1], r[2], 200);
            int[] bits = new int[r[0] == 2 ? (r[2] + 6) / 8 : 0];
            for (int base = 1; base <= 190; base++) {
                known(x, 0, base % r[1], bits);
                Due.is("BASE", x.state(0, 2), base);
                known(x, 0, (base + r[1] - 1) % r[1], bits);
                boolean old = x.state(0, 3) - base < r[1] - 1;
                Due.is("the one before is OLD", x.count(6), old ? base : 0);
                x.tick();
                for (int n = x.line(0); n > 0; n--) {
                    x.carry(0, 1, 0);
                }
                Due.is("NEXT", x.state(0, 3), Math.min(200, base + r[2]));
            }
        }
    }

    /** NEXT less BASE is 0: d 0 is not OLD, all others are. */
    private static void knownWithNothingInPieces() {
        for (int mode = 0; mode < 3; mode++) {
            int[] bits = new int[mode == 2 ? 1 : 0];
            SerialLink x = opened(mode, 8, mode == 0 ? 1 : 4, 5);
            known(x, 0, 0, bits);
            Due.is("d 0", x.count(6), 0);
            for (int number = 1; number < 8; number++) {
                known(x, 0, number, bits);
                Due.is("d " + number, x.count(6), number);
            }
            Due.is("BASE", x.state(0, 2), 0);
            Due.is("NEXT", x.state(0, 3), 0);
            Due.is("taken", x.count(4), 8);
        }
    }

    /** "the PIECE k + 1 behind BASE, if it is below NEXT, is KEPT" */
    private static void keptBelowNext() {
        for (int pieces = 0; pieces <= 32; pieces++) {
            SerialLink x = pieces(2, 64, 32, pieces);
            known(x, 0, 0, 255, 255, 255, 255);
            Due.is("KEPT of " + pieces, x.state(0, 9), Math.max(0, pieces - 1));
            Due.is("not OLD", x.count(6), 0);
            // Those made later are not KEPT.
            Due.give(x, 0, Due.full(40, 3));
            x.tick();
            Due.is("NEXT", x.state(0, 3), 32);
            Due.is("KEPT still", x.state(0, 9), Math.max(0, pieces - 1));
        }
    }

    private static void keptByEachBit() {
        for (int k = 0; k < 32; k++) {
            SerialLink x = pieces(2, 64, 32, 32);
            int[] bits = new int[4];
            bits[k / 8] = 1 << k % 8;
            known(x, 0, 0, bits);
            Due.is("bit " + k, x.state(0, 9), k < 31 ? 1 : 0);
            known(x, 0, 0, bits);
            Due.is("bit " + k + " again", x.state(0, 9), k < 31 ? 1 : 0);
            known(x, 0, 0, 0, 0, 0, 0);
            Due.is("KEPT stays", x.state(0, 9), k < 31 ? 1 : 0);
            known(x, 0, Math.min(k + 1, 31), 0, 0, 0, 0);
            Due.is("as BASE too", x.state(0, 9), k < 31 ? 1 : 0);
            known(x, 0, Math.min(k + 2, 32), 0, 0, 0, 0);
            Due.is("but not below it", x.state(0, 9), 0);
        }
    }

    /** "BASE is d more .. then, for each bit": the bits are of the PIECES behind the new BASE. */
    private static void keptGoesWithBase() {
        SerialLink x = opened(2, 8, 4, 1);
        Due.give(x, 0, Due.full(9, 0));
        x.tick();
        known(x, 0, 2, 1);
        Due.is("one behind BASE 2", x.state(0, 9), 1);
        known(x, 0, 3, 0);
        Due.is("it is BASE, and KEPT", x.state(0, 9), 1);
        known(x, 0, 4, 7);
        Due.is("nothing is above BASE 4", x.state(0, 9), 0);
        x.tick();
        Due.is("NEXT", x.state(0, 3), 8);
        known(x, 0, 6, 1);
        Due.is("7 is KEPT", x.state(0, 9), 1);
        known(x, 0, 0, 7);
        Due.is("across the ring", x.state(0, 2), 8);
        Due.is("8 is NEXT", x.state(0, 9), 0);
    }

    private static void oldKeepsNothing() {
        for (int number = 3; number < 8; number++) {
            SerialLink x = pieces(2, 8, 4, 2);
            known(x, 0, number, 7);
            Due.is("OLD", x.count(6), 1);
            Due.is("keeps nothing", x.state(0, 9), 0);
            Due.is("BASE stays", x.state(0, 2), 0);
        }
    }

    /** Each end has its own PIECES, and those of the other that it WANTS. */
    private static void bothWaysAreApart() {
        for (int mode = 0; mode < 3; mode++) {
            SerialLink x = opened(mode, 8, 1, 5);
            Due.give(x, 0, Due.full(12, 0));
            x.tick();
            data(x, 0, 0, 9);
            Due.is("end 0 WANTS 1", x.state(0, 4), 1);
            Due.is("its BASE stays", x.state(0, 2), 0);
            known(x, 0, 1);
            Due.is("its BASE", x.state(0, 2), 1);
            Due.is("it WANTS 1 still", x.state(0, 4), 1);
            Due.is("end 1 has heard nothing", x.state(1, 4) + x.state(1, 2) + x.state(1, 5), 0);
        }
    }
}
