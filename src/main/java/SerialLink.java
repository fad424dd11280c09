import java.util.Arrays;

/**
 * A serial link between two ends: frames without a zero in them, a check behind each, numbers in a
 * ring, laid again when nothing comes back, taken once and in order. The caller tells what becomes
 * of each frame on the way.
 */
public final class SerialLink {
    public static final int NONE = -1;

    private static final int TAPE_MOST = 1200;
    /** 1200 bytes stuffed: one code for each 254 of them, and one for the zero put behind. */
    private static final int OUT_MOST = 1205;
    private static final int STREAM_MOST = 3000;
    private static final int HEARD_MOST = 120;
    private static final int LINE_MOST = 40;

    private static final int SPACE_MOST = 64;
    private static final int SIZE_MOST = 60;
    private static final int TIMEOUT_MOST = 50;
    private static final int CHECK_BYTES = 4;
    /** A head, the longest load, and the check. */
    private static final int BODY_MOST = 1 + SIZE_MOST + CHECK_BYTES;
    /** A body, its one code, and the zero behind. */
    private static final int FRAME_MOST = BODY_MOST + 2;
    /** A window is narrower than this, so the last bits of a piece tell it from all the others in it. */
    private static final int RING = 64;
    private static final int RING_BITS = RING - 1;

    private static final int ONE_BY_ONE = 0;
    private static final int GOING_BACK = 1;
    private static final int EACH_BY_ITSELF = 2;

    private static final int DATA = 0;
    private static final int KNOWN = 1;

    private static final int FULL_CODE = 255;
    private static final int BROKEN_CODE = 1;
    private static final int NO_END = 2;

    private static final int WRONG_STUFFING = 1;
    private static final int WRONG_LENGTH = 2;
    private static final int WRONG_CHECK = 3;
    private static final int WRONG_HEAD = 4;
    private static final int WRONG_OVERLONG = 5;

    private static final int COUNT_LAID = 0;
    private static final int COUNT_LAID_AGAIN = 1;
    private static final int COUNT_NO_ROOM = 2;
    private static final int COUNT_LOST = 3;
    private static final int COUNT_TAKEN = 4;
    private static final int COUNT_AGAIN = 5;
    private static final int COUNT_OLD = 6;
    private static final int COUNT_WRONG = 7;
    private static final int COUNT_FORGED = 8;
    private static final int COUNT_TICKS = 9;
    private static final int COUNT_WRONG_KIND = 10;
    private static final int COUNTS = 16;

    private static final int HEAR = 0;
    private static final int LOSE = 1;
    private static final int HEAR_AND_STAY = 2;
    private static final int CHANGE_BYTE = 3;
    private static final int CUT_SHORT = 4;
    private static final int BYTE_AHEAD = 5;

    private final Setup setup = new Setup();
    private final Tally tally = new Tally();
    private final Lane laneThere = new Lane(tally);
    private final Lane laneBack = new Lane(tally);
    private final End endZero = new End(setup, tally, laneThere);
    private final End endOne = new End(setup, tally, laneBack);
    private final Row tape = new Row(TAPE_MOST);
    private final Row result = new Row(OUT_MOST);
    private final Inspector inspector = new Inspector();

    public SerialLink() {
    }

    public boolean open(int mode, int space, int window, int size, int timeout) {
        if (!Setup.canBe(mode, space, window, size, timeout)) {
            return false;
        }
        setup.choose(mode, space, window, size, timeout);
        tally.clear();
        laneThere.clear();
        laneBack.clear();
        endZero.clear();
        endOne.clear();
        inspector.clear();
        return true;
    }

    public int feed(int a, int b, int c, int d, int e) {
        if (!tape.hasRoom(20)) {
            return NONE;
        }
        feedNumber(a);
        feedNumber(b);
        feedNumber(c);
        feedNumber(d);
        feedNumber(e);
        return tape.length;
    }

    private void feedNumber(int number) {
        for (int shift = 24; shift >= 0; shift -= 8) {
            tape.add(number >>> shift);
        }
    }

    public boolean cut(int n) {
        if (n < 0 || n > tape.length) {
            return false;
        }
        tape.cutTo(n);
        return true;
    }

    public int take() {
        tape.clear();
        tape.addPart(result, 0, Math.min(result.length, TAPE_MOST));
        return tape.length;
    }

    public int give(int end) throws IndexOutOfBoundsException {
        Row given = endAt(end).sender.given;
        if (!given.hasRoom(tape.length)) {
            return NONE;
        }
        given.addPart(tape, 0, tape.length);
        tape.clear();
        return given.length;
    }

    public int tick() {
        return tickBoth();
    }

    private int tickBoth() {
        tally.add(COUNT_TICKS);
        int laid = endZero.sender.passTick();
        return laid + endOne.sender.passTick();
    }

    public int carry(int line, int how, int arg) throws IndexOutOfBoundsException {
        Lane lane = laneAt(line);
        Frame first = lane.nth(0);
        if (first == null || !canCarry(first, how, arg)) {
            return NONE;
        }
        End to = hearerOf(line);
        if (how == LOSE) {
            tally.add(COUNT_LOST);
        } else if (how == CHANGE_BYTE) {
            bring(first, to, arg / 256, arg % 256, first.bytes.length);
        } else if (how == CUT_SHORT) {
            bring(first, to, NONE, 0, arg);
        } else {
            if (how == BYTE_AHEAD) {
                to.hear(arg & 255, false);
            }
            bring(first, to, NONE, 0, first.bytes.length);
        }
        if (how != HEAR_AND_STAY) {
            lane.dropFirst();
        }
        return lane.size;
    }

    private static boolean canCarry(Frame first, int how, int arg) {
        if (how < HEAR || how > BYTE_AHEAD) {
            return false;
        }
        if (how == CHANGE_BYTE) {
            return arg >= 0 && arg / 256 < first.bytes.length;
        }
        if (how == CUT_SHORT) {
            return arg >= 0 && arg < first.bytes.length;
        }
        return true;
    }

    /** The end hears the first bytes of a frame, one of them perhaps changed. */
    private static void bring(Frame frame, End to, int changeAt, int change, int bytes) {
        boolean clean = change == 0 && bytes == frame.bytes.length && to.heard.length == 0;
        for (int i = 0; i < bytes; i++) {
            int b = frame.bytes.at(i);
            to.hear(i == changeAt ? b ^ change : b, clean);
        }
    }

    public int round() {
        tickBoth();
        int heard = 0;
        // Each frame that is heard lays one more at most, and that a KNOWN, which lays none.
        for (int turn = 0; turn < 4 * LINE_MOST; turn++) {
            int line = laneThere.size > 0 ? 0 : 1;
            Lane lane = laneAt(line);
            Frame first = lane.nth(0);
            if (first == null) {
                break;
            }
            bring(first, hearerOf(line), NONE, 0, first.bytes.length);
            lane.dropFirst();
            heard++;
        }
        return heard;
    }

    public int noise(int end, int bytes, int n) throws IndexOutOfBoundsException {
        End to = endAt(end);
        if (n < 1 || n > 4) {
            return NONE;
        }
        for (int i = n - 1; i >= 0; i--) {
            to.hear((bytes >>> (8 * i)) & 255, false);
        }
        return n;
    }

    public int frame(int line, int k, int what) throws IndexOutOfBoundsException {
        Frame frame = laneAt(line).nth(k);
        if (frame == null) {
            return NONE;
        }
        switch (what) {
            case 0:
                return frame.bytes.length;
            case 1:
                return frame.sort;
            case 2:
                return frame.number;
            case 3:
                return frame.load;
            case 4:
                return frame.again ? 1 : 0;
            default:
                return NONE;
        }
    }

    public int octet(int line, int k, int i) throws IndexOutOfBoundsException {
        Frame frame = laneAt(line).nth(k);
        return frame == null ? NONE : frame.bytes.at(i);
    }

    public int line(int line) throws IndexOutOfBoundsException {
        return laneAt(line).size;
    }

    public int state(int end, int what) throws IndexOutOfBoundsException {
        End of = endAt(end);
        switch (what) {
            case 0:
                return of.sender.given.length;
            case 1:
                return of.sender.pieced;
            case 2:
                return of.sender.base;
            case 3:
                return of.sender.next;
            case 4:
                return of.receiver.wants;
            case 5:
                return of.receiver.stream.length;
            case 6:
                return of.receiver.heldPieces();
            case 7:
                return of.sender.clock;
            case 8:
                return of.heard.length;
            case 9:
                return of.sender.keptPieces();
            default:
                return NONE;
        }
    }

    public int taken(int end, int i) throws IndexOutOfBoundsException {
        return endAt(end).receiver.stream.at(i);
    }

    public int count(int what) {
        return tally.of(what);
    }

    public int stuff() {
        Codec.pack(tape, result);
        tape.clear();
        return result.length;
    }

    public int unstuff() {
        boolean sound = inspector.isSound(tape);
        if (sound) {
            Codec.unpack(tape, result);
        }
        tape.clear();
        return sound ? result.length : NONE;
    }

    public int fault(int what) {
        if (what == 0) {
            return inspector.kind;
        }
        return what == 1 ? inspector.place : NONE;
    }

    public int check() {
        int sum = Codec.checkOf(tape, tape.length);
        tape.clear();
        return sum;
    }

    public int out(int i) {
        return result.at(i);
    }

    private End endAt(int end) {
        if (end == 0) {
            return endZero;
        }
        if (end == 1) {
            return endOne;
        }
        throw new IndexOutOfBoundsException("there is no such end");
    }

    private Lane laneAt(int line) {
        if (line == 0) {
            return laneThere;
        }
        if (line == 1) {
            return laneBack;
        }
        throw new IndexOutOfBoundsException("there is no such line");
    }

    private End hearerOf(int line) {
        return line == 0 ? endOne : endZero;
    }

    /** Bytes in a row, up to a number that is set once; every index is tested in here. */
    private static final class Row {
        final byte[] cells;
        int length;

        Row(int most) {
            cells = new byte[most > 0 ? most : 0];
        }

        void clear() {
            length = 0;
        }

        void cutTo(int n) {
            length = Math.max(0, Math.min(n, length));
        }

        boolean hasRoom(int more) {
            return more <= cells.length - length;
        }

        int at(int i) {
            return i >= 0 && i < length && i < cells.length ? cells[i] & 255 : NONE;
        }

        boolean add(int b) {
            if (length < 0 || length >= cells.length) {
                return false;
            }
            cells[length] = (byte) b;
            length++;
            return true;
        }

        void put(int i, int b) {
            if (i >= 0 && i < cells.length) {
                cells[i] = (byte) b;
            }
        }

        void addPart(Row from, int start, int bytes) {
            for (int i = 0; i < bytes; i++) {
                add(from.at(start + i));
            }
        }
    }

    /** Stuffing and the check; these know nothing of the link. */
    private static final class Codec {
        static int checkOf(Row row, int bytes) {
            int sum = -1;
            for (int i = 0; i < bytes; i++) {
                sum ^= row.at(i);
                for (int bit = 0; bit < 8; bit++) {
                    sum = (sum & 1) != 0 ? (sum >>> 1) ^ 0xEDB88320 : sum >>> 1;
                }
            }
            return ~sum;
        }

        static void pack(Row from, Row to) {
            to.clear();
            int codeAt = 0;
            int code = 1;
            to.add(code);
            for (int i = 0; i < from.length; i++) {
                int b = from.at(i);
                if (b != 0) {
                    to.add(b);
                    code++;
                }
                if (b == 0 || code == FULL_CODE) {
                    to.put(codeAt, code);
                    codeAt = to.length;
                    code = 1;
                    to.add(code);
                }
            }
            to.put(codeAt, code);
        }

        /** Of bytes that the Inspector found sound. */
        static void unpack(Row from, Row to) {
            to.clear();
            // As behind a full code: no zero is due ahead of the first piece.
            int code = FULL_CODE;
            int left = 0;
            for (int i = 0; i < from.length; i++) {
                int b = from.at(i);
                if (left > 0) {
                    to.add(b);
                    left--;
                } else {
                    if (code != FULL_CODE) {
                        to.add(0);
                    }
                    code = b;
                    left = b - 1;
                }
            }
        }
    }

    /** Finds the fault of stuffed bytes, and keeps it. */
    private static final class Inspector {
        int kind;
        int place = NONE;

        void clear() {
            kind = 0;
            place = NONE;
        }

        boolean isSound(Row row) {
            clear();
            // No bytes at all want an end as those do that end with a full code.
            int code = FULL_CODE;
            int left = 0;
            for (int i = 0; i < row.length; i++) {
                int b = row.at(i);
                boolean isCode = left == 0;
                if (b == 0 || (isCode && b > row.length - i)) {
                    return found(BROKEN_CODE, i);
                }
                code = isCode ? b : code;
                left = (isCode ? b : left) - 1;
            }
            return code != FULL_CODE || found(NO_END, row.length);
        }

        private boolean found(int faultKind, int faultPlace) {
            kind = faultKind;
            place = faultPlace;
            return false;
        }
    }

    /** What open() chose, for both ends. */
    private static final class Setup {
        int mode = GOING_BACK;
        int space = 8;
        int window = 4;
        int size = 16;
        int timeout = 3;

        static boolean canBe(int mode, int space, int window, int size, int timeout) {
            return mode >= ONE_BY_ONE && mode <= EACH_BY_ITSELF
                    && space >= 2 && space <= SPACE_MOST
                    && window >= 1 && window <= widestWindow(mode, space)
                    && size >= 1 && size <= SIZE_MOST
                    && timeout >= 1 && timeout <= TIMEOUT_MOST;
        }

        private static int widestWindow(int mode, int space) {
            if (mode == ONE_BY_ONE) {
                return 1;
            }
            return mode == GOING_BACK ? space - 1 : space / 2;
        }

        void choose(int newMode, int newSpace, int newWindow, int newSize, int newTimeout) {
            mode = newMode;
            space = newSpace;
            window = newWindow;
            size = newSize;
            timeout = newTimeout;
        }

        boolean eachByItself() {
            return mode == EACH_BY_ITSELF;
        }

        int inRing(int piece) {
            return space > 0 ? Math.floorMod(piece, space) : 0;
        }

        int knownLoad() {
            return eachByItself() ? (window - 1 + 7) / 8 : 0;
        }
    }

    /** What has happened since open(). */
    private static final class Tally {
        private final int[] counts = new int[COUNTS];

        void clear() {
            Arrays.fill(counts, 0);
        }

        void add(int what) {
            if (what >= 0 && what < counts.length) {
                counts[what]++;
            }
        }

        int of(int what) {
            return what >= 0 && what < counts.length && what != COUNT_WRONG_KIND ? counts[what] : NONE;
        }
    }

    /** A frame on its way, with what its head told when it was laid. */
    private static final class Frame {
        final Row bytes = new Row(FRAME_MOST);
        int sort;
        int number;
        int load;
        boolean again;
    }

    /** The frames between two ends, first in, first out. */
    private static final class Lane {
        private final Tally tally;
        private final Frame[] frames = new Frame[LINE_MOST];
        private final Row body = new Row(BODY_MOST);
        private int firstAt;
        int size;

        Lane(Tally tally) {
            this.tally = tally;
            for (int i = 0; i < frames.length; i++) {
                frames[i] = new Frame();
            }
        }

        void clear() {
            firstAt = 0;
            size = 0;
        }

        /** Null if there is none such. */
        Frame nth(int k) {
            return k >= 0 && k < size ? slot(k) : null;
        }

        private Frame slot(int k) {
            int i = Math.floorMod(firstAt + k, LINE_MOST);
            return i >= 0 && i < frames.length ? frames[i] : null;
        }

        void dropFirst() {
            if (size > 0) {
                firstAt = (firstAt + 1) % LINE_MOST;
                size--;
            }
        }

        /** The one body of this lane, with a head alone: a load is put behind, then lay() is called. */
        Row startBody(int sort, int number) {
            body.clear();
            body.add(64 * sort + number);
            return body;
        }

        void lay(boolean again) {
            tally.add(COUNT_LAID);
            if (again) {
                tally.add(COUNT_LAID_AGAIN);
            }
            Frame frame = size < LINE_MOST ? slot(size) : null;
            if (frame == null) {
                tally.add(COUNT_NO_ROOM);
                return;
            }
            size++;
            int head = body.at(0);
            frame.sort = head / 64;
            frame.number = head % 64;
            frame.load = body.length - 1;
            frame.again = again;
            int sum = Codec.checkOf(body, body.length);
            for (int i = 0; i < CHECK_BYTES; i++) {
                body.add(sum >>> (8 * i));
            }
            Codec.pack(body, frame.bytes);
            frame.bytes.add(0);
        }
    }

    /** The half of an end that cuts what is given into pieces and lays them until they are known. */
    private static final class Sender {
        private final Setup setup;
        private final Tally tally;
        private final Lane lane;
        final Row given = new Row(STREAM_MOST);
        int pieced;
        int clock;
        private int timer;
        int base;
        int next;
        private final int[] starts = new int[RING];
        private final int[] sizes = new int[RING];
        private final int[] timers = new int[RING];
        private final boolean[] kept = new boolean[RING];

        Sender(Setup setup, Tally tally, Lane lane) {
            this.setup = setup;
            this.tally = tally;
            this.lane = lane;
        }

        /** The rows by piece are written anew when a piece is made, so they need no clearing. */
        void clear() {
            given.clear();
            pieced = 0;
            clock = 0;
            timer = 0;
            base = 0;
            next = 0;
        }

        /** Answers how many frames were laid. */
        int passTick() {
            clock++;
            int laid = setup.eachByItself() ? layLateOnes() : layAllIfLate();
            for (int room = setup.window - (next - base); room > 0 && pieced < given.length; room--) {
                makePiece();
                laid++;
            }
            return laid;
        }

        private int layAllIfLate() {
            if (clock - timer < setup.timeout) {
                return 0;
            }
            for (int piece = base; piece < next; piece++) {
                layPiece(piece, true);
            }
            if (base < next) {
                timer = clock;
            }
            return next - base;
        }

        private int layLateOnes() {
            int laid = 0;
            for (int piece = base; piece < next; piece++) {
                int slot = piece & RING_BITS;
                if (!kept[slot] && clock - timers[slot] >= setup.timeout) {
                    layPiece(piece, true);
                    timers[slot] = clock;
                    laid++;
                }
            }
            return laid;
        }

        private void makePiece() {
            int slot = next & RING_BITS;
            starts[slot] = pieced;
            sizes[slot] = Math.min(setup.size, given.length - pieced);
            timers[slot] = clock;
            kept[slot] = false;
            pieced += sizes[slot];
            if (next == base) {
                timer = clock;
            }
            layPiece(next, false);
            next++;
        }

        private void layPiece(int piece, boolean again) {
            int slot = piece & RING_BITS;
            Row body = lane.startBody(DATA, setup.inRing(piece));
            body.addPart(given, starts[slot], sizes[slot]);
            lane.lay(again);
        }

        void hearKnown(int number, Row body) {
            int ahead = setup.inRing(number - base);
            if (ahead > next - base) {
                tally.add(COUNT_OLD);
                return;
            }
            base += ahead;
            if (setup.eachByItself()) {
                keepKnown(body);
            } else if (ahead > 0) {
                timer = clock;
            }
        }

        private void keepKnown(Row body) {
            for (int piece = base + 1; piece < next; piece++) {
                int k = piece - base - 1;
                if ((body.at(1 + k / 8) >> (k % 8) & 1) != 0) {
                    kept[piece & RING_BITS] = true;
                }
            }
        }

        int keptPieces() {
            int number = 0;
            for (int piece = base; piece < next; piece++) {
                number += kept[piece & RING_BITS] ? 1 : 0;
            }
            return number;
        }
    }

    /** The half of an end that takes the other's pieces in order and says which one it wants. */
    private static final class Receiver {
        private final Setup setup;
        private final Tally tally;
        private final Lane lane;
        final Row stream = new Row(STREAM_MOST);
        int wants;
        /** Bytes of a held piece, by piece; 0 where none is held (no load is empty). */
        private final int[] heldSizes = new int[RING];
        private final Row heldBytes = new Row(RING * SIZE_MOST);

        Receiver(Setup setup, Tally tally, Lane lane) {
            this.setup = setup;
            this.tally = tally;
            this.lane = lane;
            heldBytes.length = RING * SIZE_MOST;
        }

        void clear() {
            stream.clear();
            wants = 0;
            Arrays.fill(heldSizes, 0);
        }

        /** Answers whether a KNOWN is due. */
        boolean hearData(int number, Row body, int load) {
            int ahead = setup.inRing(number - wants);
            if (setup.eachByItself()) {
                hold(ahead, body, load);
                takeHeld();
                return true;
            }
            boolean room = stream.hasRoom(load);
            if (ahead != 0 || !room) {
                tally.add(COUNT_AGAIN);
                return ahead != 0;
            }
            stream.addPart(body, 1, load);
            wants++;
            return true;
        }

        private void hold(int ahead, Row body, int load) {
            int slot = (wants + ahead) & RING_BITS;
            if (ahead >= setup.window || heldSizes[slot] > 0) {
                tally.add(COUNT_AGAIN);
                return;
            }
            for (int i = 0; i < load; i++) {
                heldBytes.put(slot * SIZE_MOST + i, body.at(1 + i));
            }
            heldSizes[slot] = load;
        }

        private void takeHeld() {
            for (int n = 0; n < RING; n++) {
                int slot = wants & RING_BITS;
                if (heldSizes[slot] == 0 || !stream.hasRoom(heldSizes[slot])) {
                    break;
                }
                stream.addPart(heldBytes, slot * SIZE_MOST, heldSizes[slot]);
                heldSizes[slot] = 0;
                wants++;
            }
        }

        void layKnown() {
            Row body = lane.startBody(KNOWN, setup.inRing(wants));
            int load = setup.knownLoad();
            for (int i = 0; i < load; i++) {
                body.add(heldBits(8 * i));
            }
            lane.lay(false);
        }

        /** Nothing is held beyond the window, so bits that the load has too many are 0. */
        private int heldBits(int from) {
            int bits = 0;
            for (int k = 0; k < 8; k++) {
                int piece = wants + 1 + from + k;
                if (heldSizes[piece & RING_BITS] > 0) {
                    bits |= 1 << k;
                }
            }
            return bits;
        }

        int heldPieces() {
            int number = 0;
            for (int slot = 0; slot < heldSizes.length; slot++) {
                number += heldSizes[slot] > 0 ? 1 : 0;
            }
            return number;
        }
    }

    /** An end: it hears bytes, and its two halves do with the bodies what is due. */
    private static final class End {
        private final Setup setup;
        private final Tally tally;
        final Sender sender;
        final Receiver receiver;
        final Row heard = new Row(HEARD_MOST);
        private boolean overlong;
        private final Row body = new Row(HEARD_MOST);
        private final Inspector inspector = new Inspector();

        End(Setup setup, Tally tally, Lane lane) {
            this.setup = setup;
            this.tally = tally;
            sender = new Sender(setup, tally, lane);
            receiver = new Receiver(setup, tally, lane);
        }

        void clear() {
            sender.clear();
            receiver.clear();
            forgetHeard();
        }

        private void forgetHeard() {
            heard.clear();
            overlong = false;
        }

        /** Clean tells, of a 0, whether it ends a frame just as that was laid. */
        void hear(int b, boolean clean) {
            if (b != 0) {
                if (!heard.add(b)) {
                    overlong = true;
                }
            } else if (heard.length > 0) {
                endBody(clean);
                forgetHeard();
            }
        }

        private void endBody(boolean clean) {
            int kind = kindOfWrong();
            if (kind != 0) {
                tally.add(COUNT_WRONG);
                tally.add(COUNT_WRONG_KIND + kind);
                return;
            }
            tally.add(COUNT_TAKEN);
            if (!clean) {
                tally.add(COUNT_FORGED);
            }
            int number = body.at(0) % 64;
            if (body.at(0) / 64 == KNOWN) {
                sender.hearKnown(number, body);
            } else if (receiver.hearData(number, body, loadOfBody())) {
                receiver.layKnown();
            }
        }

        private int loadOfBody() {
            return body.length - 1 - CHECK_BYTES;
        }

        /** 0 if the body is to be taken. */
        private int kindOfWrong() {
            if (overlong) {
                return WRONG_OVERLONG;
            }
            if (!inspector.isSound(heard)) {
                return WRONG_STUFFING;
            }
            Codec.unpack(heard, body);
            if (body.length < 1 + CHECK_BYTES) {
                return WRONG_LENGTH;
            }
            if (!checkHolds()) {
                return WRONG_CHECK;
            }
            return headHolds() ? 0 : WRONG_HEAD;
        }

        private boolean checkHolds() {
            int covered = body.length - CHECK_BYTES;
            int sum = Codec.checkOf(body, covered);
            for (int i = 0; i < CHECK_BYTES; i++) {
                if (body.at(covered + i) != ((sum >>> (8 * i)) & 255)) {
                    return false;
                }
            }
            return true;
        }

        private boolean headHolds() {
            int sort = body.at(0) / 64;
            int load = loadOfBody();
            if (body.at(0) % 64 >= setup.space) {
                return false;
            }
            if (sort == DATA) {
                return load >= 1 && load <= setup.size;
            }
            return sort == KNOWN && load == setup.knownLoad();
        }
    }
}
