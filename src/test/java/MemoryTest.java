/** Part 9 with kinds 30 to 40 and 43: bits and bytes, images, resets and starting, files; promises 18 to 22, 39 to 43. */
public final class MemoryTest {
    private static final int[] DATA = {3, 5, 6, 7, 9, 10, 11, 12};

    public static void main(String[] args) {
        bitsOfBytes();
        oneBitIsMended();
        twoBitsAreNot();
        threeBits();
        mendingGoesRound();
        readingOut();
        sums();
        images();
        imageInUse();
        startsFromNext();
        badNextImage();
        stuckBoard();
        resets();
        threeResets();
        hanging();
        hangingWithoutLevel();
        out();
        files();
        filesAreWhole();
        partsAreTold();
        Check.finish("MemoryTest");
    }

    private static int wordOf(int value) {
        int word = 0;
        int places = 0;
        for (int i = 0; i < 8; i++) {
            if ((value >> i & 1) == 1) {
                word |= 1 << DATA[i];
                places ^= DATA[i];
            }
        }
        for (int i = 1; i <= 8; i *= 2) {
            if ((places & i) != 0) {
                word |= 1 << i;
            }
        }
        return word | Integer.bitCount(word) % 2;
    }

    private static int d(int... numbers) {
        long h = 7;
        for (int number : numbers) {
            h = (257 * h + Math.floorMod(number, 65536)) % 65521;
        }
        return (int) h;
    }

    private static int dOf(Orbithouse o, int bank, int from, int to) {
        int[] bytes = new int[to - from + 1];
        for (int i = from; i <= to; i++) {
            bytes[i - from] = o.byteAt(bank, i);
        }
        return d(bytes);
    }

    private static void bitsOfBytes() {
        Orbithouse o = new Orbithouse();
        for (int bank = 0; bank < 4; bank++) {
            for (int place = 0; place < 64; place++) {
                Check.same("bits", o.bits(bank, place), wordOf(o.byteAt(bank, place)));
            }
        }
        for (int half = 0; half < 2; half++) {
            Orbithouse p = Check.near();
            for (int value = 128 * half; value < 128 * half + 128; value++) {
                Check.doneAs(p, 0, 30, 1, value % 64, value);
                Check.same("byte " + value, p.byteAt(1, value % 64), value);
                Check.same("bits " + value, p.bits(1, value % 64), wordOf(value));
            }
        }
    }

    private static void oneBitIsMended() {
        for (int bit = 0; bit < 13; bit++) {
            Orbithouse o = Check.near();
            int value = 17 * bit + 5;
            Check.doneAs(o, 0, 30, 1, 40, value);
            Check.same("as it is read", o.flip(1, 40, bit), value);
            Check.same("bits", o.bits(1, 40), wordOf(value) ^ 1 << bit);
            Check.same("byte", o.byteAt(1, 40), value);
            o.step(37);
            Check.same("T", o.parameter(0), 39);
            Check.same("not mended yet", o.parameter(13), 0);
            o.step(1);
            Check.same("mended", o.parameter(13), 1);
            Check.same("not lost", o.parameter(14), 0);
            Check.same("bits", o.bits(1, 40), wordOf(value));
            o.step(2);
            Check.report("event 4", o, 1, 4, 64 + 40);
        }
    }

    private static void twoBitsAreNot() {
        for (int one = 0; one < 13; one++) {
            for (int two = 0; two < one; two++) {
                Orbithouse o = new Orbithouse();
                o.flip(2, 3, one);
                Check.same("two bits", o.flip(2, 3, two), 0);
                Check.same("byte", o.byteAt(2, 3), 0);
                o.step(3);
                Check.same("mended", o.parameter(13), 0);
                Check.same("not mended", o.parameter(14), 1);
                Check.same("bits stay", o.bits(2, 3), wordOf(50) ^ 1 << one ^ 1 << two);
                o.step(64);
                Check.same("once more", o.parameter(14), 2);
            }
        }
        Orbithouse o = Check.near();
        o.flip(3, 20, 1);
        o.flip(3, 20, 2);
        o.step(22);
        Check.report("event 5", o, 1, 5, 3 * 64 + 20);
    }

    private static void threeBits() {
        Orbithouse o = new Orbithouse();
        // 4, 8 and 1 are 13 together: no place.
        o.flip(1, 0, 4);
        o.flip(1, 0, 8);
        Check.same("cannot be mended", o.flip(1, 0, 1), 0);
        o.flip(1, 1, 3);
        o.flip(1, 1, 5);
        // 3, 5 and 6 are 0 together, with the bit 0 wrong: it is read as it stands.
        Check.same("read wrong", o.flip(1, 1, 6), 7);
        o.step(65);
        Check.same("mended to another word", o.bits(1, 1), wordOf(7));
        Check.same("mended", o.parameter(13), 1);
        Check.same("not mended", o.parameter(14), 1);
    }

    private static void mendingGoesRound() {
        Orbithouse o = new Orbithouse();
        for (int bank = 3; bank >= 0; bank--) {
            o.flip(bank, 10, bank);
            o.flip(bank, 11, 0);
        }
        o.flip(0, 11, 1);
        o.step(9);
        Check.same("mended", o.parameter(13), 0);
        o.step(1);
        Check.same("each bank", o.parameter(13), 4);
        o.step(1);
        Check.same("each bank but one", o.parameter(13), 7);
        Check.same("not that one", o.parameter(14), 1);
        int n = o.store(0, 'n');
        Check.same("events", n, 8);
        o.step(100);
        Check.same("mended stays so", o.parameter(13), 7);
    }

    private static void readingOut() {
        Orbithouse o = Check.near();
        o.flip(0, 7, 12);
        Check.doneAs(o, 0, 31, 0, 2, 6);
        Check.doneAs(o, 0, 31, 3, 63, 1);
        o.step(3);
        Check.report("bytes", o, 3, 0, 2, 3, 50, 20, 4, 95, 105);
        Check.report("bytes", o, 3, 3, 63, 0);
        int at = Check.latest(o, 3, 3);
        Check.same("behind it comes its end", o.kept(at + 1, 'c'), 0);
        Check.same("with the next NUMBER", o.kept(at + 1, 'n'), o.kept(at, 'n') + 1);
        Check.doneAs(o, 2, 31, 0, 59, 6);
        Check.doneAs(o, 0, 31, 0, 58, 6);
    }

    private static void sums() {
        Orbithouse o = Check.near();
        o.flip(2, 6, 5);
        Check.doneAs(o, 0, 32, 2, 0, 63);
        Check.doneAs(o, 0, 32, 0, 5, 5);
        Check.doneAs(o, 2, 32, 0, 6, 5);
        o.step(3);
        Check.report("sum", o, 3, 12, 0, o.image(2, 's'));
        Check.report("sum", o, 3, 10, 5, d(4));
        Check.same("sum", dOf(o, 2, 0, 63), o.image(2, 's'));
    }

    private static void images() {
        Orbithouse o = Check.near();
        Check.doneAs(o, 4, 33, 2);
        Check.doneAs(o, 4, 34, 3, 0, 1, 2, 3, 4);
        Check.doneAs(o, 4, 35, 3, o.image(3, 's'));
        int old = o.image(3, 's');
        Check.doneAs(o, 0, 36, 3);
        Check.same("next", o.image(3, 'n'), 1);
        Check.same("next", o.image(2, 'n'), 0);
        Check.doneAs(o, 0, 33, 3);
        Check.same("begun", o.image(3, 'b'), 1);
        Check.same("not whole", o.image(3, 'w'), 0);
        Check.same("its sum stays", o.image(3, 's'), old);
        Check.same("it is the next one still", o.image(3, 'n'), 1);
        for (int i = 0; i < 64; i++) {
            Check.same("bytes are 0", o.bits(3, i), 0);
        }
        Check.doneAs(o, 4, 36, 3);
        Check.doneAs(o, 0, 34, 3, 60, 251, 252, 253, 255);
        Check.doneAs(o, 0, 34, 3, 1, 50, 51, 52, 0);
        int[] bytes = new int[64];
        System.arraycopy(new int[] {0, 50, 51, 52}, 0, bytes, 0, 4);
        System.arraycopy(new int[] {251, 252, 253, 255}, 0, bytes, 60, 4);
        for (int i = 0; i < 64; i++) {
            Check.same("bytes", o.byteAt(3, i), bytes[i]);
        }
        Check.doneAs(o, 4, 35, 3, d(bytes) + 1);
        Check.same("begun still", o.image(3, 'b'), 1);
        Check.same("sum", o.image(3, 's'), old);
        o.flip(3, 1, 0);
        Check.doneAs(o, 0, 35, 3, d(bytes));
        Check.same("whole", o.image(3, 'w'), 1);
        Check.same("not begun", o.image(3, 'b'), 0);
        Check.same("sum", o.image(3, 's'), d(bytes));
        Check.doneAs(o, 4, 35, 3, d(bytes));
        Check.doneAs(o, 4, 34, 3, 0, 1, 1, 1, 1);
        Check.doneAs(o, 0, 36, 2);
        Check.doneAs(o, 0, 36, 3);
        Check.doneAs(o, 0, 37);
        o.step(4);
        Check.same("started from 3", o.parameter(22), 3);
        for (int i = 0; i < 8; i++) {
            Check.same("C" + i, o.byteAt(0, i), bytes[i]);
        }
    }

    private static void imageInUse() {
        Orbithouse o = Check.near();
        Check.doneAs(o, 0, 36, 3);
        Check.doneAs(o, 0, 37);
        o.step(4);
        Check.doneAs(o, 4, 33, 3);
        Check.doneAs(o, 0, 33, 2);
        // The next image is the one from which it was started.
        Check.same("next", o.image(3, 'n'), 1);
    }

    private static void startsFromNext() {
        Orbithouse o = Check.near();
        Check.doneAs(o, 0, 30, 0, 3, 77);
        Check.same("C3", o.byteAt(0, 3), 77);
        int order = Check.tellFast(o, 37);
        o.step(2);
        Check.same("done", o.endOf(order), 0);
        Check.same("resets", o.board(), 's');
        Check.same("resets", o.parameter(12), 1);
        Check.same("from 2 yet", o.parameter(22), 2);
        o.step(3);
        Check.same("resets", o.board(), 's');
        Check.same("C3 yet", o.byteAt(0, 3), 77);
        int made = o.world('n');
        o.step(1);
        Check.same("runs", o.board(), 'r');
        Check.same("C3", o.byteAt(0, 3), 50);
        Check.same("one report", o.world('n'), made + 1);
        o.step(2);
        Check.report("event 6", o, 1, 6, 2);
        Check.same("in the tick of its start", o.kept(Check.latest(o, 1, 6), 't'), 8);
        Check.same("the end of 37 went with its row", Check.count(o, 0, 0), 1);
    }

    private static void badNextImage() {
        Orbithouse o = Check.near();
        Check.doneAs(o, 0, 36, 3);
        // Two bits cannot be mended: the sum is wrong.
        o.flip(3, 5, 1);
        o.flip(3, 5, 2);
        Check.doneAs(o, 0, 37);
        o.step(4);
        Check.same("the other one", o.parameter(22), 2);
        Check.same("which is the next one then", o.image(2, 'n'), 1);
        o.step(2);
        Check.report("event 6", o, 1, 6, 2);
        // One bit does not matter.
        Orbithouse p = Check.near();
        Check.doneAs(p, 0, 36, 3);
        p.flip(3, 5, 1);
        Check.doneAs(p, 0, 37);
        p.step(4);
        Check.same("the next one", p.parameter(22), 3);
    }

    private static void stuckBoard() {
        Orbithouse o = Check.near();
        Check.doneAs(o, 0, 33, 3);
        o.flip(2, 0, 1);
        o.flip(2, 0, 2);
        Check.doneAs(o, 0, 37);
        o.step(3);
        int made = o.world('n');
        o.step(1);
        Check.same("stuck", o.board(), 'k');
        Check.same("from none", o.parameter(22), -1);
        Check.same("no event", o.world('n'), made);
        Check.refused("hang", IllegalStateException.class, o, o::hang);
        Check.doneAs(o, 0, 0);
        Check.doneAs(o, 1, 44);
        Check.doneAs(o, 2, 30, 9);
        for (int kind = 1; kind < 44; kind++) {
            if (kind < 33 || kind > 37) {
                int[] n = {kind < 19 && kind != 7 && kind != 13 && kind != 3 ? 3 : kind == 30 ? 1 : 2, 1,
                    kind == 32 || kind == 31 ? 1 : 0, 1, 1, 1};
                if (kind == 3 || kind == 7 || kind == 13) {
                    n[0] = 1;
                }
                Check.doneAs(o, 3, kind, n);
            }
        }
        int mended = o.parameter(14);
        o.step(64);
        Check.same("no mending", o.parameter(14), mended);
        // An image is loaded anew, and it is started from it.
        Check.doneAs(o, 4, 36, 3);
        Check.doneAs(o, 0, 33, 2);
        int[] bytes = new int[64];
        for (int i = 0; i < 8; i += 4) {
            for (int j = 0; j < 4; j++) {
                bytes[i + j] = 11 * (i + j) + 1;
            }
            Check.doneAs(o, 0, 34, 2, i, bytes[i], bytes[i + 1], bytes[i + 2], bytes[i + 3]);
        }
        Check.doneAs(o, 0, 35, 2, d(bytes));
        Check.doneAs(o, 0, 36, 2);
        Check.doneAs(o, 0, 37);
        Check.same("resets", o.board(), 's');
        o.step(4);
        Check.same("runs", o.board(), 'r');
        Check.same("from 2", o.parameter(22), 2);
        Check.same("C7", o.byteAt(0, 7), 78);
    }

    private static void resets() {
        Orbithouse o = Check.near();
        Check.doneAs(o, 0, 7, 1);
        Check.doneAs(o, 0, 13, 1);
        Check.doneAs(o, 0, 27, 0, 0, 99);
        int[] orders = new int[5];
        for (int i = 0; i < 5; i++) {
            orders[i] = Check.tellFast(o, i == 1 ? 37 : 0);
        }
        int inOrder = Check.tellInOrder(o, 0);
        for (int i = 0; i < 5; i++) {
            o.link(true, 5 - i, 0, 0, 0, 0);
            o.step(1);
        }
        o.link(true, 1, 0, 0, 0, 0);
        o.step(2);
        Check.same("ahead", o.endOf(orders[0]), 0);
        Check.same("itself", o.endOf(orders[1]), 0);
        Check.same("behind", o.endOf(orders[2]), 9);
        Check.same("behind", o.endOf(orders[4]), 9);
        Check.same("behind, in order", o.endOf(inOrder), 9);
        Check.same("queue", o.parameter(6), 0);
        Check.same("schedule", o.isOn('s'), false);
        Check.same("actions", o.isOn('a'), false);
        Check.same("row at once", o.parameter(16), 0);
        Check.same("row played", o.parameter(17), 0);
        Check.same("stores stay", o.store(0, 'n'), 5);
        Check.same("NEXT stays", o.receiver('n'), 1);
        Check.same("mode stays", o.parameter(1), 1);
        int d = o.ground('d');
        o.step(4);
        Check.same("one frame was on its way", o.ground('d') - d, 0);
        Check.same("runs", o.board(), 'r');
        o.step(1);
        Check.same("one frame in the tick of the start", o.ground('d') - d, 1);
    }

    private static void threeResets() {
        for (int between = 45; between <= 52; between++) {
            Orbithouse o = Check.near();
            for (int i = 0; i < 3; i++) {
                Check.doneAs(o, 0, 37);
                Check.same("resets", o.parameter(12), i + 1);
                if (i < 2) {
                    o.step(4);
                    Check.same("mode", o.parameter(1), 1);
                    Check.same("next", o.image(2, 'n'), 1);
                    o.step(between - 6);
                }
            }
            o.step(3);
            Check.same("not yet", o.parameter(1), 1);
            int made = o.world('n');
            o.step(1);
            boolean isSafe = 2 * between <= 100;
            Check.same("mode with " + between, o.parameter(1), isSafe ? 0 : 1);
            Check.same("image with " + between, o.parameter(22), isSafe ? 3 : 2);
            Check.same("no event 2", o.world('n'), made + 1);
            Check.same("wheels", o.unit(13, 'o'), isSafe ? 1 : 0);
        }
    }

    private static void hanging() {
        Orbithouse o = Check.near();
        Check.same("level 2", o.hang(), true);
        Check.same("hangs", o.board(), 'h');
        int d = o.ground('d');
        o.step(4);
        Check.same("hangs", o.board(), 'h');
        Check.same("nothing down", o.ground('d'), d);
        Check.same("resets", o.parameter(12), 0);
        o.step(1);
        Check.same("more than C5", o.board(), 's');
        Check.same("resets", o.parameter(12), 1);
        o.step(3);
        Check.same("resets", o.board(), 's');
        Check.refused("hang", IllegalStateException.class, o, o::hang);
        o.step(1);
        Check.same("runs", o.board(), 'r');
        Check.same("again", o.hang(), true);
        o.step(4);
        Check.same("counted anew", o.board(), 'h');
        Orbithouse p = Check.near();
        Check.doneAs(p, 0, 30, 0, 5, 0);
        p.hang();
        p.step(1);
        Check.same("C5 of 0", p.board(), 's');
    }

    private static void hangingWithoutLevel() {
        Orbithouse o = Check.near();
        Check.doneAs(o, 0, 41, 2, 0);
        Check.same("level", o.isOn('m'), false);
        Check.same("level 2", o.hang(), false);
        o.step(300);
        Check.same("hangs", o.board(), 'h');
        Check.same("resets", o.parameter(12), 0);
    }

    private static void out() {
        Orbithouse o = Check.near();
        Check.doneAs(o, 0, 3, 2);
        Check.doneAs(o, 0, 7, 1);
        Check.doneAs(o, 0, 6, 0, 9, 0);
        o.sky(0, 48);
        o.drain(1000);
        int order = Check.tellFast(o, 0);
        Check.same("runs yet", o.board(), 'r');
        o.step(1);
        Check.same("out", o.board(), 'o');
        Check.same("a reset", o.parameter(12), 1);
        Check.same("schedule", o.isOn('s'), false);
        for (int i = 0; i < 15; i++) {
            Check.same("unit " + i, o.unit(i, 'o'), i < 2 ? 1 : 0);
        }
        Check.refused("hang", IllegalStateException.class, o, o::hang);
        o.step(20);
        Check.same("out", o.board(), 'o');
        Check.same("one reset alone", o.parameter(12), 1);
        Check.same("gone", o.endOf(order), -1);
        Check.same("mode yet", o.parameter(1), 2);
        o.sky(96, 48);
        for (int t = 0; t < 20 && o.board() == 'o'; t++) {
            Check.same("below 50", o.world('b') < 50, true);
            o.step(1);
        }
        Check.same("resets", o.board(), 's');
        Check.same("50 or more", o.world('b') >= 50, true);
        Check.same("no reset more", o.parameter(12), 1);
        Check.same("SAFE", o.parameter(1), 0);
        Check.same("gyro", o.unit(4, 'o'), 1);
        Check.same("sun sensor", o.unit(6, 'o'), 1);
        Check.same("wheel", o.unit(13, 'o'), 1);
        int made = o.world('n');
        o.step(4);
        Check.same("runs", o.board(), 'r');
        Check.same("event 6 alone", o.world('n'), made + 1);
        // Below C0 no transmitter is put on.
        Check.same("transmitter", o.unit(2, 'o'), 0);
        o.step(1);
        Check.same("LOST entry", o.parameter(15), 1);
    }

    private static void files() {
        Orbithouse o = Check.near();
        Check.doneAs(o, 0, 38, 1, 0, -1, 65536, 65537, Integer.MIN_VALUE);
        Check.doneAs(o, 0, 38, 1, 2, 5, 6, 7, 8);
        Check.doneAs(o, 0, 38, 1, 15, 9, 9, 9, 9);
        Check.same("parts", o.file(1, 'p'), 3);
        Check.same("part", o.filePart(1, 0, 0), -1);
        Check.same("part", o.filePart(1, 0, 3), Integer.MIN_VALUE);
        Check.refused("part 1", java.util.NoSuchElementException.class, o, () -> o.filePart(1, 1, 0));
        Check.refused("another file", java.util.NoSuchElementException.class, o, () -> o.filePart(0, 0, 0));
        Check.doneAs(o, 4, 39, 1, 3, 0);
        o.step(3);
        Check.report("the first one that is not there", o, 4, 1, 1);
        Check.same("parts stay", o.file(1, 'p'), 3);
        Check.doneAs(o, 0, 38, 1, 2, 15, 16, 17, 18);
        Check.same("told anew", o.filePart(1, 2, 1), 16);
        Check.doneAs(o, 0, 38, 1, 1, 1, 2, 3, 4);
        Check.doneAs(o, 4, 39, 1, 3, 99);
        Check.same("all its parts are gone", o.file(1, 'p'), 0);
        Check.same("not whole", o.file(1, 'w'), 0);
        o.step(3);
        Check.same("no report more", Check.count(o, 4, 1), 1);
        Check.same("no event 9", Check.count(o, 1, 9), 0);
    }

    private static void filesAreWhole() {
        Orbithouse o = Check.near();
        Check.doneAs(o, 0, 38, 2, 0, -1, 65536, 65537, Integer.MIN_VALUE);
        Check.doneAs(o, 0, 38, 2, 1, 1, 2, 3, 4);
        Check.doneAs(o, 0, 38, 2, 2, 5, 6, 7, 8);
        Check.doneAs(o, 0, 39, 2, 2, d(-1, 65536, 65537, Integer.MIN_VALUE, 1, 2, 3, 4));
        Check.same("whole", o.file(2, 'w'), 1);
        Check.same("with these parts alone", o.file(2, 'p'), 2);
        o.step(3);
        Check.report("event 9", o, 1, 9, 2);
        Check.doneAs(o, 4, 38, 2, 0, 1, 1, 1, 1);
        Check.doneAs(o, 4, 39, 2, 2, d(-1, 65536, 65537, Integer.MIN_VALUE, 1, 2, 3, 4));
        Check.doneAs(o, 4, 39, 2, 5, 0);
        o.step(3);
        Check.same("no report of a whole one", Check.count(o, 4, 2), 0);
        Check.same("part stays", o.filePart(2, 0, 0), -1);
        Check.doneAs(o, 0, 40, 2);
        Check.same("not whole", o.file(2, 'w'), 0);
        Check.same("no parts", o.file(2, 'p'), 0);
        Check.doneAs(o, 0, 38, 2, 0, 1, 1, 1, 1);
        for (int i = 0; i < 16; i++) {
            Check.doneAs(o, 0, 38, 0, i, i, i, i, i);
        }
        int[] cells = new int[64];
        for (int i = 0; i < 64; i++) {
            cells[i] = i / 4;
        }
        Check.doneAs(o, 0, 39, 0, 16, d(cells));
        Check.same("16 parts", o.file(0, 'p'), 16);
    }

    private static void partsAreTold() {
        Orbithouse o = Check.near();
        Check.doneAs(o, 4, 43, 2, 15);
        Check.doneAs(o, 0, 38, 2, 15, 1, -2, 3, -4);
        Check.doneAs(o, 0, 43, 2, 15);
        o.step(3);
        Check.report("part", o, 4, 2, 15, 1, -2, 3, -4);
        Check.same("one report", Check.count(o, 4, 2), 1);
    }
}
