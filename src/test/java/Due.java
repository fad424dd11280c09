/** What the tests share: answers compared with what is due, and ways to put bytes on the tape. */
final class Due {
    private static int wrong = 0;
    private static int seen = 0;

    private Due() {
    }

    static void is(String call, long got, long want) {
        seen++;
        if (got != want) {
            wrong++;
            if (wrong <= 20) {
                System.out.println(call + " answered " + got + ", due is " + want);
            }
        }
    }

    static void is(String call, boolean got, boolean want) {
        is(call, got ? 1 : 0, want ? 1 : 0);
    }

    interface Call {
        void run();
    }

    static void outOfBounds(String call, Call it) {
        int thrown = 0;
        try {
            it.run();
        } catch (IndexOutOfBoundsException e) {
            // The document's own throw comes from the class itself, not from the machine.
            thrown = e.getClass() == IndexOutOfBoundsException.class ? 1 : 2;
        }
        is(call + " throws IndexOutOfBoundsException", thrown, 1);
    }

    static void end(String test) {
        System.out.println(test + ": " + seen + " answers, " + wrong + " not as due");
        if (wrong != 0) {
            System.exit(1);
        }
    }

    static int[] bytes(int... b) {
        return b;
    }

    /** n bytes from, from + 1, ..; none of them 0. */
    static int[] full(int n, int from) {
        int[] row = new int[n];
        for (int i = 0; i < n; i++) {
            row[i] = 1 + Math.floorMod(from + i, 255);
        }
        return row;
    }

    static int[] join(int[]... rows) {
        int n = 0;
        for (int[] row : rows) {
            n += row.length;
        }
        int[] all = new int[n];
        int at = 0;
        for (int[] row : rows) {
            System.arraycopy(row, 0, all, at, row.length);
            at += row.length;
        }
        return all;
    }

    /** Puts exactly these bytes on the tape, whatever is there. */
    static void tape(SerialLink x, int[] bytes) {
        x.cut(0);
        for (int i = 0; i < bytes.length; i += 20) {
            int[] n = new int[5];
            for (int k = 0; k < 20; k++) {
                int b = i + k < bytes.length ? bytes[i + k] & 255 : 0;
                n[k / 4] = n[k / 4] << 8 | b;
            }
            x.feed(n[0], n[1], n[2], n[3], n[4]);
        }
        x.cut(bytes.length);
    }

    static void give(SerialLink x, int end, int[] bytes) {
        tape(x, bytes);
        x.give(end);
    }

    static void outIs(String call, SerialLink x, int[] want) {
        for (int i = 0; i < want.length; i++) {
            is(call + ", out(" + i + ")", x.out(i), want[i]);
        }
        is(call + ", out behind the last", x.out(want.length), -1);
        is(call + ", out(-1)", x.out(-1), -1);
    }

    static void takenIs(String call, SerialLink x, int end, int[] want) {
        is(call + ", bytes taken", x.state(end, 5), want.length);
        for (int i = 0; i < want.length; i++) {
            is(call + ", taken(" + end + ", " + i + ")", x.taken(end, i), want[i]);
        }
        is(call + ", taken behind the last", x.taken(end, want.length), -1);
        is(call + ", taken(-1)", x.taken(end, -1), -1);
    }

    static void frameIs(String call, SerialLink x, int line, int k, int[] want) {
        is(call + ", frame bytes", x.frame(line, k, 0), want.length);
        for (int i = 0; i < want.length; i++) {
            is(call + ", octet " + i, x.octet(line, k, i), want[i]);
        }
        is(call + ", octet behind the last", x.octet(line, k, want.length), -1);
        is(call + ", octet(-1)", x.octet(line, k, -1), -1);
    }

    /** The CRC-32 of the Java library: another hand than the class's own. */
    static int crc(int[] bytes) {
        java.util.zip.CRC32 crc = new java.util.zip.CRC32();
        for (int b : bytes) {
            crc.update(b);
        }
        return (int) crc.getValue();
    }

    static int[] sealed(int... headAndLoad) {
        int c = crc(headAndLoad);
        return join(headAndLoad, bytes(c & 255, c >>> 8 & 255, c >>> 16 & 255, c >>> 24));
    }

    /** Stuffing by the words of the document: cut into pieces first, then codes ahead of them. */
    static int[] stuffed(int... plain) {
        int[] all = join(plain, bytes(0));
        int[] to = new int[0];
        int start = 0;
        for (int i = 0; i < all.length; i++) {
            if (all[i] == 0) {
                to = join(to, bytes(i - start + 1), java.util.Arrays.copyOfRange(all, start, i));
                start = i + 1;
            } else if (i - start + 1 == 254) {
                to = join(to, bytes(255), java.util.Arrays.copyOfRange(all, start, i + 1));
                start = i + 1;
            }
        }
        return to;
    }

    /** A frame of this head and load, the 0 behind it too. */
    static int[] framed(int... headAndLoad) {
        return join(stuffed(sealed(headAndLoad)), bytes(0));
    }

    static void noise(SerialLink x, int end, int[] bytes) {
        for (int b : bytes) {
            x.noise(end, b, 1);
        }
    }
}
