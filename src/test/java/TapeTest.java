/** Promises 3 feed, 4 cut, 5 take, 6 give, 17 stuff, 18 unstuff, 19 fault, 20 check, 21 out. */
public final class TapeTest {
    public static void main(String[] args) {
        feedAndCut();
        take();
        give();
        stuff();
        unstuff();
        faults();
        check();
        openKeepsTapeAndOut();
        Due.end("TapeTest");
    }

    private static int[] tapeOf(SerialLink x) {
        // Stuffing takes the tape away; its pieces tell what was there.
        x.stuff();
        x.take();
        x.unstuff();
        int n = 0;
        while (x.out(n) != -1) {
            n++;
        }
        int[] row = new int[n];
        for (int i = 0; i < n; i++) {
            row[i] = x.out(i);
        }
        return row;
    }

    private static void tapeIs(String call, SerialLink x, int[] want) {
        int[] got = tapeOf(x);
        Due.is(call + ", bytes on the tape", got.length, want.length);
        for (int i = 0; i < Math.min(got.length, want.length); i++) {
            Due.is(call + ", tape " + i, got[i], want[i]);
        }
    }

    private static void feedAndCut() {
        SerialLink x = new SerialLink();
        Due.is("feed", x.feed(0x01020304, 0x80FF0001, -1, 0, 0x0A0B0C0D), 20);
        tapeIs("feed, highest first", x, Due.bytes(1, 2, 3, 4, 128, 255, 0, 1, 255, 255, 255, 255,
                0, 0, 0, 0, 10, 11, 12, 13));
        Due.is("feed behind nothing", x.feed(1, 2, 3, 4, 5), 20);
        Due.is("cut(21) of 20", x.cut(21), false);
        Due.is("cut(-1)", x.cut(-1), false);
        Due.is("cut(MIN)", x.cut(Integer.MIN_VALUE), false);
        Due.is("feed goes behind", x.feed(6, 7, 8, 9, 10), 40);
        Due.is("cut(40) of 40", x.cut(40), true);
        Due.is("cut(22) of 40", x.cut(22), true);
        Due.is("feed behind 22", x.feed(0x11000000, 0, 0, 0, 0), 42);
        Due.is("cut(23)", x.cut(23), true);
        tapeIs("cut", x, Due.bytes(0, 0, 0, 1, 0, 0, 0, 2, 0, 0, 0, 3, 0, 0, 0, 4, 0, 0, 0, 5,
                0, 0, 0x11));
        for (int i = 1; i <= 60; i++) {
            Due.is("feed " + i, x.feed(i, i, i, i, i), 20 * i);
        }
        Due.is("feed above 1200", x.feed(1, 1, 1, 1, 1), -1);
        Due.is("cut(1181)", x.cut(1181), true);
        Due.is("feed to 1201", x.feed(1, 1, 1, 1, 1), -1);
        Due.is("cut(1180)", x.cut(1180), true);
        Due.is("feed to 1200", x.feed(7, 7, 7, 7, 7), 1200);
        Due.is("cut(0)", x.cut(0), true);
        Due.is("cut(1) of none", x.cut(1), false);
        Due.is("cut(0) of none", x.cut(0), true);
    }

    private static void take() {
        SerialLink x = new SerialLink();
        x.feed(1, 2, 3, 4, 5);
        Due.is("take() of an empty OUT", x.take(), 0);
        Due.is("the tape is empty by it", x.cut(1), false);
        Due.tape(x, Due.bytes(5, 0, 6));
        Due.is("stuff", x.stuff(), 4);
        Due.is("take", x.take(), 4);
        Due.is("take again, OUT stays", x.take(), 4);
        tapeIs("take", x, Due.bytes(2, 5, 2, 6));
        Due.tape(x, Due.full(1200, 3));
        Due.is("stuff of 1200", x.stuff(), 1205);
        Due.is("take of 1205", x.take(), 1200);
        Due.is("take of 1205 leaves", x.cut(1201), false);
        int[] first = java.util.Arrays.copyOf(Due.stuffed(Due.full(1200, 3)), 1200);
        Due.is("take of 1205, its first 1200 bytes", x.check(), Due.crc(first));
    }

    private static void give() {
        SerialLink x = new SerialLink();
        Due.is("give of nothing", x.give(1), 0);
        Due.tape(x, Due.bytes(1, 2, 3));
        Due.outOfBounds("give(2)", () -> x.give(2));
        Due.outOfBounds("give(-1)", () -> x.give(-1));
        Due.is("give(1) after a throw", x.give(1), 3);
        Due.is("the tape goes", x.cut(1), false);
        Due.is("give nothing again", x.give(1), 3);
        Due.is("the other end has none", x.state(0, 0), 0);
        Due.give(x, 1, Due.full(1200, 0));
        Due.give(x, 1, Due.full(1200, 0));
        Due.tape(x, Due.full(598, 0));
        Due.is("give above 3000", x.give(1), -1);
        Due.is("given stays", x.state(1, 0), 2403);
        Due.is("the tape stays", x.cut(598), true);
        Due.is("give(0) of what stayed", x.give(0), 598);
        Due.tape(x, Due.full(597, 0));
        Due.is("give to 3000", x.give(1), 3000);
        Due.tape(x, Due.bytes(1));
        Due.is("give to 3001", x.give(1), -1);
        Due.is("cut, to give nothing", x.cut(0), true);
        Due.is("give of nothing to 3000", x.give(1), 3000);
    }

    private static void stuff() {
        SerialLink x = new SerialLink();
        Due.is("stuff of nothing", x.stuff(), 1);
        Due.outIs("stuff of nothing", x, Due.bytes(1));
        stuffs(x, "one 0", Due.bytes(0), Due.bytes(1, 1));
        stuffs(x, "0 0", Due.bytes(0, 0), Due.bytes(1, 1, 1));
        stuffs(x, "11 22 00 33", Due.bytes(0x11, 0x22, 0, 0x33), Due.bytes(3, 0x11, 0x22, 2, 0x33));
        stuffs(x, "11 00 00 00", Due.bytes(0x11, 0, 0, 0), Due.bytes(2, 0x11, 1, 1, 1));
        int[] r253 = Due.full(253, 0);
        int[] r254 = Due.full(254, 0);
        stuffs(x, "253", r253, Due.join(Due.bytes(254), r253));
        stuffs(x, "254", r254, Due.join(Due.bytes(255), r254, Due.bytes(1)));
        stuffs(x, "254, 0", Due.join(r254, Due.bytes(0)), Due.join(Due.bytes(255), r254, Due.bytes(1, 1)));
        stuffs(x, "254, 9", Due.join(r254, Due.bytes(9)), Due.join(Due.bytes(255), r254, Due.bytes(2, 9)));
        stuffs(x, "0, 254", Due.join(Due.bytes(0), r254), Due.join(Due.bytes(1, 255), r254, Due.bytes(1)));
        stuffs(x, "3, 0, 254, 254", Due.join(Due.bytes(3, 0), r254, r254),
                Due.join(Due.bytes(2, 3, 255), r254, Due.bytes(255), r254, Due.bytes(1)));
        stuffs(x, "253, 0, 1", Due.join(r253, Due.bytes(0, 1)), Due.join(Due.bytes(254), r253, Due.bytes(2, 1)));
        stuffs(x, "1200", Due.full(1200, 7), Due.stuffed(Due.full(1200, 7)));
        stuffs(x, "1200 of 0", new int[1200], Due.stuffed(new int[1200]));
        Due.tape(x, Due.bytes(4));
        x.stuff();
        Due.is("the tape goes", x.cut(1), false);
    }

    private static void stuffs(SerialLink x, String what, int[] plain, int[] want) {
        Due.tape(x, plain);
        Due.is("stuff of " + what, x.stuff(), want.length);
        Due.outIs("stuff of " + what, x, want);
    }

    private static void unstuff() {
        SerialLink x = new SerialLink();
        unstuffs(x, Due.bytes(1), Due.bytes());
        unstuffs(x, Due.bytes(1, 1), Due.bytes(0));
        unstuffs(x, Due.bytes(3, 17, 34, 2, 51), Due.bytes(17, 34, 0, 51));
        int[] r254 = Due.full(254, 9);
        unstuffs(x, Due.join(Due.bytes(255), r254, Due.bytes(1)), r254);
        unstuffs(x, Due.join(Due.bytes(255), r254, Due.bytes(2, 8)), Due.join(r254, Due.bytes(8)));
        unstuffs(x, Due.join(Due.bytes(255), r254, Due.bytes(1, 1)), Due.join(r254, Due.bytes(0)));
        unstuffs(x, Due.join(Due.bytes(2, 7, 255), r254, Due.bytes(1)), Due.join(Due.bytes(7, 0), r254));
        int[] r253 = Due.full(253, 9);
        unstuffs(x, Due.join(Due.bytes(254), r253, Due.bytes(2, 5)), Due.join(r253, Due.bytes(0, 5)));
        Due.is("the tape goes", x.cut(1), false);
        int[] ones = new int[1200];
        java.util.Arrays.fill(ones, 1);
        unstuffs(x, ones, new int[1199]);
    }

    private static void unstuffs(SerialLink x, int[] from, int[] want) {
        Due.tape(x, from);
        Due.is("unstuff of " + from.length, x.unstuff(), want.length);
        Due.outIs("unstuff of " + from.length, x, want);
        Due.is("no fault", x.fault(0), 0);
        Due.is("no place", x.fault(1), -1);
    }

    private static void faults() {
        SerialLink x = new SerialLink();
        Due.is("fault(0) ahead of any", x.fault(0), 0);
        Due.is("fault(1) ahead of any", x.fault(1), -1);
        Due.is("fault(2)", x.fault(2), -1);
        Due.is("fault(-1)", x.fault(-1), -1);
        Due.tape(x, Due.bytes(7, 8));
        x.stuff();
        int[] r254 = Due.full(254, 9);
        faulty(x, Due.bytes(), 2, 0);
        faulty(x, Due.join(Due.bytes(255), r254), 2, 255);
        faulty(x, Due.join(Due.bytes(2, 1, 255), r254), 2, 257);
        faulty(x, Due.join(Due.bytes(255), Due.full(253, 1)), 1, 0);
        faulty(x, Due.bytes(0), 1, 0);
        faulty(x, Due.bytes(2), 1, 0);
        faulty(x, Due.bytes(1, 1, 3, 5), 1, 2);
        faulty(x, Due.bytes(2, 5, 0), 1, 2);
        faulty(x, Due.bytes(2, 5, 0, 255), 1, 2);
        faulty(x, Due.bytes(4, 5, 0, 6), 1, 2);
        faulty(x, Due.bytes(4, 5, 6, 0), 1, 3);
        faulty(x, Due.bytes(2, 0), 1, 1);
        faulty(x, Due.bytes(5, 0, 0), 1, 0);
        faulty(x, Due.bytes(1, 5, 0, 0), 1, 1);
        faulty(x, Due.bytes(2, 0, 9), 1, 1);
        Due.is("fault(2) with a fault", x.fault(2), -1);
        Due.is("the tape goes", x.cut(1), false);
        Due.tape(x, Due.bytes(1));
        x.stuff();
        x.check();
        Due.is("the latest unstuff's fault stays", x.fault(0), 1);
        Due.tape(x, Due.bytes(1));
        x.unstuff();
        Due.is("and goes with the next", x.fault(0), 0);
        Due.is("and its place", x.fault(1), -1);
        faulty2(x);
    }

    private static void faulty2(SerialLink x) {
        Due.tape(x, Due.bytes(9));
        x.unstuff();
        Due.is("a fault ahead of open()", x.fault(0), 1);
        x.open(3, 2, 1, 1, 1);
        Due.is("stays where open() does nothing", x.fault(0), 1);
        x.open(1, 2, 1, 1, 1);
        Due.is("all is as at first", x.fault(0), 0);
        Due.is("all is as at first, its place", x.fault(1), -1);
    }

    private static void faulty(SerialLink x, int[] from, int kind, int place) {
        Due.tape(x, Due.bytes(7, 8));
        x.stuff();
        Due.tape(x, from);
        String call = "unstuff of " + java.util.Arrays.toString(from);
        Due.is(call, x.unstuff(), -1);
        Due.is(call + ", fault(0)", x.fault(0), kind);
        Due.is(call + ", fault(1)", x.fault(1), place);
        Due.is(call + ", the tape goes", x.cut(1), false);
        Due.outIs(call + ", OUT stays", x, Due.bytes(3, 7, 8));
    }

    private static void check() {
        SerialLink x = new SerialLink();
        Due.is("check of nothing", x.check(), 0);
        Due.tape(x, Due.bytes('1', '2', '3', '4', '5', '6', '7', '8', '9'));
        Due.is("check of 123456789", x.check(), 0xCBF43926);
        Due.is("the tape goes", x.cut(1), false);
        Due.tape(x, Due.bytes(0));
        Due.is("check of 0", x.check(), 0xD202EF8D);
        Due.tape(x, Due.bytes(255));
        Due.is("check of 255", x.check(), 0xFF000000);
        int[] all = Due.full(1200, 77);
        Due.tape(x, all);
        Due.is("check of 1200", x.check(), Due.crc(all));
    }

    private static void openKeepsTapeAndOut() {
        SerialLink x = new SerialLink();
        Due.outIs("out of a new object", x, Due.bytes());
        Due.tape(x, Due.bytes(3));
        x.stuff();
        Due.tape(x, Due.bytes(5, 6));
        Due.is("open", x.open(2, 8, 4, 10, 3), true);
        Due.outIs("open", x, Due.bytes(2, 3));
        Due.is("out(MAX)", x.out(Integer.MAX_VALUE), -1);
        Due.is("out(MIN)", x.out(Integer.MIN_VALUE), -1);
        tapeIs("open", x, Due.bytes(5, 6));
    }
}
