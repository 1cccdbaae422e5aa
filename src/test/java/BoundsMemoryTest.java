/** The boundaries of part 9 and of files: bits, banks of 64 bytes, D, images, resets, hanging, being out, 16 parts. */
public final class BoundsMemoryTest {
    private static final int[] DATA = {3, 5, 6, 7, 9, 10, 11, 12};
    private static final int LOW = Integer.MIN_VALUE;
    private static final int HIGH = Integer.MAX_VALUE;

    public static void main(String[] args) {
        bitsTurnedInAllBytes();
        twelveIsThePlaceOfABit();
        mendingAtEachPlace();
        mendingByNumbers();
        bytesOfBanks();
        readingToTheEnd();
        sumsToTheEnd();
        sumsGoRound();
        imagesToTheEnd();
        sumsOfImages();
        imageOfTheStart();
        fourTicks();
        hundredTicks();
        fourthReset();
        hundredTicksByGoingOut();
        hundredTicksByHanging();
        constantOfHanging();
        hangingIsCounted();
        outAtNothing();
        backAtFifty();
        outWhileItDoesNotRun();
        stuckWithoutImages();
        firstPartThatIsNotThere();
        sixteenParts();
        cellsAreTakenModulo();
        sumOfAFile();
        filesByThemselves();
        Check.finish("BoundsMemoryTest");
    }

    private static int wordOf(int value) {
        int word = 0;
        int places = 0;
        for (int i = 0; i < 8; i++) {
            if ((value >> i & 1) == 1) {
                word |= 1 << DATA[i];
                places ^= DATA[i];
            }
        }
        for (int i = 1; i <= 8; i *= 2) {
            word |= (places & i) != 0 ? 1 << i : 0;
        }
        return word | Integer.bitCount(word) % 2;
    }

    /** By the words of part 9: the byte as it is read, -1 if it cannot be mended. */
    private static int readOf(int word) {
        int s = 0;
        for (int i = 1; i <= 12; i++) {
            s ^= (word >> i & 1) == 1 ? i : 0;
        }
        int p = Integer.bitCount(word) % 2;
        if (p == 0 && s > 0 || p == 1 && s > 12) {
            return -1;
        }
        int good = p == 1 ? word ^ 1 << s : word;
        int value = 0;
        for (int i = 0; i < 8; i++) {
            value |= (good >> DATA[i] & 1) << i;
        }
        return value;
    }

    private static int d(int... numbers) {
        long h = 7;
        for (int number : numbers) {
            h = (257 * h + Math.floorMod(number, 65536)) % 65521;
        }
        return (int) h;
    }

    /** All words of 13 bits from the byte 0, and from 255: one bit is turned, or two, or any. */
    private static void bitsTurnedInAllBytes() {
        for (int value : new int[] {0, 255, 0x80, 1, 0x5A}) {
            Orbithouse o = Check.near();
            Check.doneAs(o, 0, 30, 1, 63, value);
            int word = wordOf(value);
            Check.same("bits", o.bits(1, 63), word);
            // As a Gray code goes: each turn of one bit leads to a word that was not there yet.
            for (int i = 1; i < 8192; i++) {
                int bit = Integer.numberOfTrailingZeros(i);
                word ^= 1 << bit;
                int due = readOf(word);
                int got = o.flip(1, 63, bit);
                if (got != Math.max(0, due) || o.bits(1, 63) != word || o.byteAt(1, 63) != got) {
                    Check.same("word " + word, got, Math.max(0, due));
                }
            }
        }
    }

    /** "If p is 1 and s at most 12": 12 is the highest bit of the byte; 13, 14 and 15 are none. */
    private static void twelveIsThePlaceOfABit() {
        int[][] cases = {{0, 4, 8}, {1, 4, 8}, {2, 4, 8}, {1, 2, 12}, {3, 4, 8}};
        int[] due = {0x80, 0, 0, 0, 0};
        for (int i = 0; i < cases.length; i++) {
            Orbithouse o = Check.near();
            o.flip(1, 20, cases[i][0]);
            o.flip(1, 20, cases[i][1]);
            Check.same("read", o.flip(1, 20, cases[i][2]), due[i]);
            o.step(20);
            Check.same("mended", o.parameter(13), due[i] > 0 ? 1 : 0);
            Check.same("could not be", o.parameter(14), due[i] > 0 ? 0 : 1);
            Check.same("as it stands then", o.byteAt(1, 20), due[i]);
            o.step(2);
            Check.report("event", o, 1, due[i] > 0 ? 4 : 5, 64 + 20);
        }
    }

    /** "At the place T modulo 64": 63, 64, 65 and so on, once round in 64 ticks. */
    private static void mendingAtEachPlace() {
        for (int place : new int[] {0, 1, 31, 62, 63}) {
            Orbithouse o = Check.near();
            Check.doneAs(o, 0, 0);
            o.flip(3, place, 12);
            int at = place <= 2 ? place + 64 : place;
            o.step(at - 1 - o.parameter(0));
            Check.same("not yet", o.parameter(13), 0);
            o.step(1);
            Check.same("at " + at, o.parameter(13), 1);
            o.step(2);
            Check.report("event 4", o, 1, 4, 192 + place);
            o.flip(3, place, 12);
            o.step(at + 63 - o.parameter(0));
            Check.same("not yet", o.parameter(13), 1);
            o.step(1);
            Check.same("64 ticks later", o.parameter(13), 2);
            Check.same("the events", o.storeAt(0, o.store(0, 'n') - 1), o.world('n') - 1);
            o.step(300);
            Check.same("no more", o.parameter(13), 2);
        }
    }

    private static void mendingByNumbers() {
        Orbithouse o = Check.near();
        int[][] turned = {{3, 0, 1, 2}, {2, 0, 5, -1}, {1, 0, 1, 12}, {0, 0, 0, -1}};
        for (int[] t : turned) {
            o.flip(t[0], t[1], t[2]);
            if (t[3] >= 0) {
                o.flip(t[0], t[1], t[3]);
            }
        }
        o.step(63);
        Check.same("none yet", o.parameter(13) + o.parameter(14), 0);
        int made = o.world('n');
        o.step(1);
        Check.same("two were mended", o.parameter(13), 2);
        Check.same("two could not be", o.parameter(14), 2);
        o.step(6);
        int[][] due = {{4, 0}, {5, 64}, {4, 128}, {5, 192}};
        int first = o.ground('k') - 4;
        for (int i = 0; i < 4; i++) {
            Check.same("NUMBER", o.kept(first + i, 'n'), made + i);
            Check.same("event", o.kept(first + i, 'a'), due[i][0]);
            Check.same("64 times the bank, and the place", o.kept(first + i, 'b'), due[i][1]);
        }
    }

    /** 30: "byte y, 0 to 63, of bank x, 0 to 1, becomes z, 0 to 255". */
    private static void bytesOfBanks() {
        Orbithouse o = Check.near();
        for (int bank = 0; bank < 2; bank++) {
            for (int place : new int[] {0, 1, 62, 63}) {
                for (int value : new int[] {0, 255, 128, 1}) {
                    int near = o.byteAt(bank, place == 0 ? 1 : place - 1);
                    Check.doneAs(o, 0, 30, bank, place, value);
                    Check.same("byte", o.byteAt(bank, place), value);
                    Check.same("bits", o.bits(bank, place), wordOf(value));
                    Check.same("the one beside it", o.byteAt(bank, place == 0 ? 1 : place - 1), near);
                }
            }
            Check.doneAs(o, 2, 30, bank, 63, 256);
            Check.doneAs(o, 2, 30, bank, 63, -1);
            Check.doneAs(o, 2, 30, bank, 64, 1);
            Check.same("as it was", o.byteAt(bank, 63), 1);
        }
        Check.doneAs(o, 2, 30, 2, 63, 1);
        Check.doneAs(o, 2, 30, -1, 63, 1);
        // What cannot be mended is written anew like any other.
        o.flip(1, 9, 1);
        o.flip(1, 9, 2);
        Check.doneAs(o, 0, 30, 1, 9, 200);
        Check.same("written", o.byteAt(1, 9), 200);
        // One bit turned in a byte that is not written is read as it was, but not written.
        o.flip(1, 10, 7);
        Check.same("read", o.byteAt(1, 10), 0);
        Check.same("not written", o.bits(1, 10), 1 << 7);
    }

    /** 31: "y and z together are at most 64". */
    private static void readingToTheEnd() {
        Orbithouse o = Check.near();
        for (int i = 0; i < 6; i++) {
            Check.doneAs(o, 0, 30, 1, 58 + i, 101 + i);
        }
        for (int count = 1; count <= 6; count++) {
            Check.doneAs(o, 0, 31, 1, 64 - count, count);
            Check.doneAs(o, 2, 31, 1, 65 - count, count);
            o.step(3);
            int[] due = new int[count];
            for (int i = 0; i < count; i++) {
                due[i] = 107 - count + i;
            }
            Check.report("to the end", o, 3, 1, 64 - count, due);
        }
        Check.doneAs(o, 2, 31, 1, 0, 0);
        Check.doneAs(o, 2, 31, 1, 0, 7);
        Check.doneAs(o, 2, 31, 1, 63, HIGH);
        Check.doneAs(o, 2, 31, 1, HIGH, 6);
        Check.doneAs(o, 2, 31, 1, 64, 1);
        Check.doneAs(o, 2, 31, 4, 0, 1);
        Check.same("reports of them alone", Check.count(o, 3, 1), 6);
    }

    /** 32: "D of the bytes from y to z, 0 to 63; z is not below y". */
    private static void sumsToTheEnd() {
        Orbithouse o = Check.near();
        for (int bank = 0; bank < 4; bank++) {
            int[] all = new int[64];
            for (int i = 0; i < 64; i++) {
                all[i] = o.byteAt(bank, i);
            }
            int[][] ranges = {{0, 0}, {63, 63}, {0, 63}, {5, 8}, {62, 63}};
            for (int[] range : ranges) {
                Check.doneAs(o, 0, 32, bank, range[0], range[1]);
                o.step(2);
                Check.report("D", o, 3, 10 + bank, range[0],
                        d(java.util.Arrays.copyOfRange(all, range[0], range[1] + 1)));
            }
            Check.doneAs(o, 2, 32, bank, 63, 62);
            Check.doneAs(o, 2, 32, bank, 1, 0);
            Check.doneAs(o, 2, 32, bank, 0, 64);
            Check.doneAs(o, 2, 32, bank, 64, 64);
            Check.doneAs(o, 2, 32, bank, -1, 5);
        }
    }

    /** D is taken modulo 65521 each time: 64 bytes of 255; 7 times 257 is 1799 for one byte of 0. */
    private static void sumsGoRound() {
        Orbithouse o = Check.near();
        Check.doneAs(o, 0, 32, 1, 20, 20);
        o.step(2);
        Check.report("one byte of 0", o, 3, 11, 20, 1799);
        Check.doneAs(o, 0, 32, 1, 20, 21);
        o.step(2);
        // 1799 times 257 is 462343: 7 times 65521, and 3696.
        Check.report("two bytes of 0", o, 3, 11, 20, 3696);
        int[] full = new int[64];
        for (int i = 0; i < 64; i++) {
            full[i] = 255;
            Check.doneAs(o, 0, 30, 1, i, 255);
        }
        Check.doneAs(o, 0, 32, 1, 0, 63);
        o.step(2);
        Check.report("64 bytes of 255", o, 3, 11, 0, d(full));
        // What cannot be mended is 0 in it.
        o.flip(1, 63, 0);
        o.flip(1, 63, 1);
        full[63] = 0;
        Check.doneAs(o, 0, 32, 1, 0, 63);
        o.step(2);
        Check.report("with one that cannot be mended", o, 3, 11, 0, d(full));
    }

    /** 34: "bytes y to y and 3, y 0 to 60, of image x, become 0 to 255". */
    private static void imagesToTheEnd() {
        Orbithouse o = Check.near();
        Check.doneAs(o, 0, 33, 3);
        Check.same("begun", o.image(3, 'b'), 1);
        for (int i = 0; i < 64; i++) {
            Check.same("64 bytes of 0", o.bits(3, i), 0);
            Check.same("of this bank alone", o.byteAt(2, i) > 0, i < 9);
        }
        Check.doneAs(o, 0, 34, 3, 60, 255, 0, 128, 1);
        Check.doneAs(o, 0, 34, 3, 0, 1, 2, 3, 4);
        Check.doneAs(o, 0, 34, 3, 1, 5, 6, 7, 8);
        int[] due = new int[64];
        System.arraycopy(new int[] {1, 5, 6, 7, 8}, 0, due, 0, 5);
        System.arraycopy(new int[] {255, 0, 128, 1}, 0, due, 60, 4);
        for (int i = 0; i < 64; i++) {
            Check.same("byte " + i, o.byteAt(3, i), due[i]);
        }
        Check.doneAs(o, 2, 34, 3, 61, 0, 0, 0, 0);
        Check.doneAs(o, 2, 34, 3, 59, 256, 0, 0, 0);
        Check.doneAs(o, 2, 34, 3, 59, 0, 256, 0, 0);
        Check.doneAs(o, 2, 34, 3, 59, 0, 0, 256, 0);
        Check.doneAs(o, 2, 34, 3, 59, 0, 0, 0, 256);
        Check.doneAs(o, 2, 34, 3, 59, 0, 0, 0, -1);
        Check.same("as it was", o.byteAt(3, 60), 255);
        // Begun once more all are 0 again.
        Check.doneAs(o, 0, 33, 3);
        Check.same("0", o.byteAt(3, 60), 0);
        Check.doneAs(o, 0, 35, 3, d(new int[64]));
        Check.same("whole", o.image(3, 'w'), 1);
        Check.doneAs(o, 4, 34, 3, 0, 1, 2, 3, 4);
    }

    /** 35: the sum is D itself, not a number that is D modulo 65521. */
    private static void sumsOfImages() {
        Orbithouse o = Check.near();
        Check.doneAs(o, 0, 33, 3);
        Check.doneAs(o, 0, 34, 3, 10, 9, 8, 7, 6);
        int[] bytes = new int[64];
        System.arraycopy(new int[] {9, 8, 7, 6}, 0, bytes, 10, 4);
        int sum = d(bytes);
        int old = o.image(3, 's');
        for (int wrong : new int[] {sum - 1, sum + 1, sum - 65521, sum + 65521, sum + 65536, -sum, LOW, HIGH}) {
            Check.doneAs(o, 4, 35, 3, wrong);
            Check.same("begun still", o.image(3, 'b'), 1);
            Check.same("not whole", o.image(3, 'w'), 0);
            Check.same("the sum as at first", o.image(3, 's'), old);
        }
        // "As they are read": one bit does not matter, two do.
        o.flip(3, 10, 3);
        o.flip(3, 20, 3);
        o.flip(3, 20, 5);
        Check.same("still 0", o.byteAt(3, 20), 0);
        Check.doneAs(o, 0, 35, 3, sum);
        Check.same("the sum", o.image(3, 's'), sum);
        Check.same("not begun", o.image(3, 'b'), 0);
        Check.doneAs(o, 4, 35, 3, sum);
    }

    /** 33 "fails if the board was started from it", 36 "fails if it is not whole", for both images. */
    private static void imageOfTheStart() {
        for (int image = 2; image <= 3; image++) {
            Orbithouse o = Check.near();
            int other = 5 - image;
            Check.doneAs(o, 0, 36, image);
            Check.same("next", o.image(image, 'n'), 1);
            Check.same("not next", o.image(other, 'n'), 0);
            Check.doneAs(o, 0, 37);
            o.step(4);
            Check.same("started from it", o.parameter(22), image);
            Check.doneAs(o, 4, 33, image);
            Check.doneAs(o, 0, 33, other);
            Check.doneAs(o, 4, 36, other);
            Check.same("next yet", o.image(image, 'n'), 1);
            Check.doneAs(o, 0, 36, image);
            // As the next image is chosen and then begun, it is not whole: it is started from the other one.
            Orbithouse p = Check.near();
            Check.doneAs(p, 0, 36, 3);
            Check.doneAs(p, 0, 33, 3);
            Check.same("next", p.image(3, 'n'), 1);
            Check.doneAs(p, 0, 37);
            p.step(4);
            Check.same("from 2", p.parameter(22), 2);
            Check.same("2 is the next one", p.image(2, 'n'), 1);
            Check.same("begun still", p.image(3, 'b'), 1);
        }
        Orbithouse o = Check.near();
        Check.doneAs(o, 2, 36, 1);
        Check.doneAs(o, 2, 36, 4);
        Check.doneAs(o, 2, 33, 1);
        Check.doneAs(o, 2, 33, 4);
        Check.doneAs(o, 2, 35, 1, 0);
        Check.doneAs(o, 2, 35, 4, 0);
    }

    /** "It is resetting for 4 ticks, this one not counted"; what is behind in (c) is done from the next tick on. */
    private static void fourTicks() {
        Orbithouse o = Check.near();
        Check.doneAs(o, 0, 19, 0, 0);
        Check.doneAs(o, 0, 20, 0, 1);
        o.flip(1, 6, 3);
        o.flip(1, 10, 3);
        o.flip(1, 11, 3);
        int made = o.world('n');
        Check.doneAs(o, 0, 37);
        Check.same("T", o.parameter(0), 6);
        // At T 5 the structure; at T 6 the end of 37, and neither structure nor mending.
        Check.same("reports", o.world('n'), made + 2);
        Check.same("no mending behind a reset", o.parameter(13), 0);
        for (int i = 0; i < 3; i++) {
            o.step(1);
            Check.same("resetting", o.board(), 's');
        }
        o.step(1);
        Check.same("T", o.parameter(0), 10);
        Check.same("runs", o.board(), 'r');
        Check.same("event 6 alone", o.world('n'), made + 3);
        Check.same("no mending yet", o.parameter(13), 0);
        o.step(1);
        Check.same("mending", o.parameter(13), 1);
        Check.same("structure and event 4", o.world('n'), made + 5);
    }

    /** Three resets at the given T; the mode at the end of the third start. */
    private static Orbithouse resetsAt(int first, int second, int third) {
        Orbithouse o = Check.near();
        for (int at : new int[] {first, second, third}) {
            Check.go(o, at - 2 - o.parameter(0));
            Check.doneAs(o, 0, 37);
            Check.same("T", o.parameter(0), at);
            Check.same("mode", o.parameter(1), 1);
            Check.go(o, 4);
            Check.same("runs", o.board(), 'r');
        }
        return o;
    }

    /** "Within 100 ticks (their T differ by 100 at most)". */
    private static void hundredTicks() {
        int[][] cases = {{10, 20, 110}, {10, 20, 111}, {10, 100, 110}, {10, 100, 111}, {10, 60, 109}, {2, 52, 102},
            {2, 52, 103}, {10, 16, 22}};
        for (int[] c : cases) {
            Orbithouse o = resetsAt(c[0], c[1], c[2]);
            boolean isNear = c[2] - c[0] <= 100;
            Check.same("mode of " + c[2], o.parameter(1), isNear ? 0 : 1);
            Check.same("started from", o.parameter(22), isNear ? 3 : 2);
            Check.same("the next one", o.image(isNear ? 3 : 2, 'n'), 1);
            o.step(3);
            Check.same("without an event", Check.count(o, 1, 2), 0);
        }
        // Two resets are none too many, however near.
        Orbithouse o = Check.near();
        Check.doneAs(o, 0, 37);
        o.step(4);
        Check.doneAs(o, 0, 37);
        o.step(4);
        Check.same("mode", o.parameter(1), 1);
        Check.same("image", o.parameter(22), 2);
    }

    /** "The second one ahead of that": of four resets the second one, not the first. */
    private static void fourthReset() {
        for (int fourth = 201; fourth <= 202; fourth++) {
            Orbithouse o = resetsAt(10, 101, 180);
            Check.same("mode", o.parameter(1), 1);
            Check.go(o, fourth - 2 - o.parameter(0));
            Check.doneAs(o, 0, 37);
            o.step(4);
            Check.same("mode of " + fourth, o.parameter(1), fourth == 201 ? 0 : 1);
            Check.same("image", o.parameter(22), fourth == 201 ? 3 : 2);
        }
        // Each start counts anew: the fifth one turns the image back.
        Orbithouse o = resetsAt(10, 20, 30);
        Check.same("image", o.parameter(22), 3);
        Check.doneAs(o, 0, 37);
        o.step(4);
        Check.same("image", o.parameter(22), 2);
        Check.doneAs(o, 0, 37);
        o.step(4);
        Check.same("image", o.parameter(22), 3);
    }

    /** "Or the going out, part of which it is": it counts by the T at which it went out. */
    private static void hundredTicksByGoingOut() {
        for (int out = 110; out <= 111; out++) {
            Orbithouse o = Check.near();
            for (int at : new int[] {10, 50}) {
                Check.go(o, at - 2 - o.parameter(0));
                Check.doneAs(o, 0, 37);
            }
            o.step(out - 1 - o.parameter(0));
            o.sky(0, 48);
            o.drain(1000);
            o.step(1);
            Check.same("out", o.board(), 'o');
            Check.same("resets", o.parameter(12), 3);
            o.step(20);
            Check.same("out", o.board(), 'o');
            o.sky(96, 48);
            o.step(30);
            Check.same("runs", o.board(), 'r');
            Check.same("SAFE either way", o.parameter(1), 0);
            Check.same("image", o.parameter(22), out == 110 ? 3 : 2);
        }
    }

    private static void hundredTicksByHanging() {
        for (int hung = 110; hung <= 111; hung++) {
            Orbithouse o = Check.near();
            for (int at : new int[] {10, 50}) {
                Check.go(o, at - 2 - o.parameter(0));
                Check.doneAs(o, 0, 37);
            }
            // More than 4 ticks: the fifth one is that of the reset.
            o.step(hung - 5 - o.parameter(0));
            o.hang();
            o.step(4);
            Check.same("hangs", o.board(), 'h');
            o.step(1);
            Check.same("T", o.parameter(0), hung);
            Check.same("resetting", o.board(), 's');
            o.step(4);
            Check.same("mode", o.parameter(1), hung == 110 ? 0 : 1);
            Check.same("image", o.parameter(22), hung == 110 ? 3 : 2);
        }
    }

    /** "They are more than C5", as it is read. */
    private static void constantOfHanging() {
        for (int constant : new int[] {0, 1, 3, 5, 255}) {
            Orbithouse o = Check.near();
            Check.doneAs(o, 0, 30, 0, 5, constant);
            o.hang();
            Check.go(o, constant);
            Check.same("as many as C5", o.board(), 'h');
            Check.same("resets", o.parameter(12), 0);
            o.step(1);
            Check.same("more than C5", o.board(), 's');
            Check.same("resets", o.parameter(12), 1);
        }
        // It cannot be mended: 0.
        Orbithouse o = Check.near();
        o.flip(0, 5, 1);
        o.flip(0, 5, 2);
        o.hang();
        o.step(1);
        Check.same("more than 0", o.board(), 's');
        // It is read as each tick goes by.
        Orbithouse p = Check.near();
        Check.doneAs(p, 0, 30, 0, 5, 200);
        p.hang();
        p.step(100);
        Check.same("not yet", p.board(), 'h');
        p.flip(0, 5, 1);
        p.flip(0, 5, 2);
        p.step(1);
        Check.same("more than 0", p.board(), 's');
    }

    private static void hangingIsCounted() {
        Orbithouse o = Check.near();
        for (int i = 1; i <= 4; i++) {
            o.hang();
            Check.refused("it hangs", IllegalStateException.class, o, o::hang);
            o.step(4);
            Check.same("hangs", o.board(), 'h');
            o.step(1);
            Check.same("resetting", o.board(), 's');
            Check.refused("it is resetting", IllegalStateException.class, o, o::hang);
            Check.same("resets", o.parameter(12), i);
            o.step(100);
            Check.same("runs", o.board(), 'r');
        }
    }

    /** "As soon as the battery is 0 in (b)": 1 is enough, and less than 0 is 0. */
    private static void outAtNothing() {
        // Without SUN 14 are used in a tick.
        for (int left : new int[] {0, 13, 14, 15}) {
            Orbithouse o = Check.near();
            o.sky(0, 48);
            Check.same("drained", o.drain(800 - left), left);
            Check.same("runs until (b)", o.board(), 'r');
            o.step(1);
            Check.same("battery", o.world('b'), Math.max(0, left - 14));
            Check.same("board with " + left, o.board(), left == 15 ? 'r' : 'o');
            Check.same("resets", o.parameter(12), left == 15 ? 0 : 1);
            // With 1 left it is SAFE: the transmitter is off, the fourth wheel is on.
            Check.same("units on", o.parameter(8), left == 15 ? 8 : 2);
        }
        // With SUN 0 is not out, if more comes than goes.
        Orbithouse o = Check.near();
        o.drain(1000);
        o.step(1);
        Check.same("battery", o.world('b'), 13);
        Check.same("runs", o.board(), 'r');
        Check.same("SAFE", o.parameter(1), 0);
    }

    /** "As the battery is 50 or more in (c)": 25 come in each tick, as long as the angle is 20. */
    private static void backAtFifty() {
        for (int drained = 0; drained <= 1; drained++) {
            Orbithouse o = Check.near();
            o.sky(0, 48);
            o.drain(1000);
            o.step(1);
            Check.same("out", o.board(), 'o');
            o.sky(96, 48);
            o.step(1);
            Check.same("battery", o.world('b'), 25);
            Check.same("out", o.board(), 'o');
            o.drain(drained);
            o.step(1);
            Check.same("battery", o.world('b'), drained == 1 ? 49 : 50);
            Check.same("board", o.board(), drained == 1 ? 'o' : 's');
            Check.same("mode", o.parameter(1), drained == 1 ? 1 : 0);
            Check.same("resets", o.parameter(12), 1);
            if (drained == 1) {
                o.step(1);
                Check.same("board", o.board(), 's');
            }
            o.step(3);
            Check.same("resetting for 4 ticks", o.board(), 's');
            o.step(1);
            Check.same("runs", o.board(), 'r');
            Check.same("no reset more", o.parameter(12), 1);
        }
    }

    /** It goes out from any state, once. */
    private static void outWhileItDoesNotRun() {
        for (int how = 0; how < 3; how++) {
            Orbithouse o = Check.near();
            if (how == 0) {
                o.hang();
            } else {
                if (how == 2) {
                    Check.doneAs(o, 0, 33, 3);
                    o.flip(2, 0, 1);
                    o.flip(2, 0, 2);
                }
                Check.doneAs(o, 0, 37);
                o.step(how == 2 ? 4 : 2);
            }
            Check.same("ahead", o.board(), "hsk".charAt(how));
            int resets = o.parameter(12);
            o.sky(0, 48);
            o.drain(1000);
            o.step(1);
            Check.same("out", o.board(), 'o');
            Check.same("a reset", o.parameter(12), resets + 1);
            o.step(50);
            Check.same("out", o.board(), 'o');
            Check.same("once", o.parameter(12), resets + 1);
            Check.same("mode", o.parameter(1), 1);
        }
        // Resetting anew, it may go out again.
        Orbithouse o = Check.near();
        o.sky(0, 48);
        o.drain(1000);
        o.step(1);
        o.sky(96, 48);
        o.step(2);
        Check.same("resetting", o.board(), 's');
        o.sky(0, 48);
        o.drain(1000);
        o.step(1);
        Check.same("out", o.board(), 'o');
        Check.same("two resets", o.parameter(12), 2);
    }

    /** "Otherwise it is stuck, started from none (-1)"; the next image stays. */
    private static void stuckWithoutImages() {
        for (int next = 2; next <= 3; next++) {
            Orbithouse o = Check.near();
            Check.doneAs(o, 0, 36, next);
            for (int image = 2; image <= 3; image++) {
                o.flip(image, 63, 0);
                o.flip(image, 63, 12);
            }
            // 0 is read as 0 either way: the sums are right still.
            Check.doneAs(o, 0, 37);
            o.step(4);
            Check.same("from " + next, o.parameter(22), next);
            for (int image = 2; image <= 3; image++) {
                o.flip(image, 8, 0);
                o.flip(image, 8, 12);
            }
            Check.doneAs(o, 0, 37);
            o.step(4);
            Check.same("stuck", o.board(), 'k');
            Check.same("from none", o.parameter(22), -1);
            Check.same("the next one", o.image(next, 'n'), 1);
            Check.same("whole, as it is told", o.image(next, 'w'), 1);
            // One that is stuck and is reset without another image is stuck again.
            Check.doneAs(o, 0, 37);
            Check.same("resetting", o.board(), 's');
            o.step(4);
            Check.same("stuck", o.board(), 'k');
            Check.same("three resets make it SAFE", o.parameter(1), 0);
            Check.same("and turn the next image", o.image(5 - next, 'n'), 1);
        }
    }

    /** 39: "one of its first y parts is not there: then a report with the first one that is not". */
    private static void firstPartThatIsNotThere() {
        for (int missing = 0; missing < 16; missing++) {
            Orbithouse o = Check.near();
            for (int part = 0; part < 16; part++) {
                if (part != missing && part != 15 - missing / 2) {
                    Check.doneAs(o, 0, 38, 2, part, 1, 1, 1, 1);
                }
            }
            int first = Math.min(missing, 15 - missing / 2);
            int parts = o.file(2, 'p');
            Check.doneAs(o, 4, 39, 2, 16, 0);
            o.step(3);
            Check.report("the first one that is not there", o, 4, 2, first);
            Check.same("parts stay", o.file(2, 'p'), parts);
            if (first > 0) {
                // With those alone that are there ahead of it another thing is wrong.
                Check.doneAs(o, 4, 39, 2, first, -1);
                o.step(3);
                Check.same("no report more", Check.count(o, 4, 2), 1);
                Check.same("all parts are gone", o.file(2, 'p'), 0);
            }
        }
    }

    /** "Part y, 0 to 15", "with y parts, 1 to 16". */
    private static void sixteenParts() {
        for (int parts : new int[] {1, 2, 15, 16}) {
            Orbithouse o = Check.near();
            int[] cells = new int[4 * parts];
            for (int i = 0; i < 16; i++) {
                Check.doneAs(o, 0, 38, 0, i, 4 * i, 4 * i + 1, 4 * i + 2, 4 * i + 3);
                Check.same("parts", o.file(0, 'p'), i + 1);
            }
            for (int i = 0; i < cells.length; i++) {
                cells[i] = i;
            }
            Check.doneAs(o, 2, 38, 0, 16, 1, 1, 1, 1);
            Check.doneAs(o, 2, 38, 0, -1, 1, 1, 1, 1);
            Check.doneAs(o, 2, 39, 0, 17, d(cells));
            Check.doneAs(o, 2, 39, 0, 0, 7);
            Check.same("16 yet", o.file(0, 'p'), 16);
            Check.doneAs(o, 0, 39, 0, parts, d(cells));
            Check.same("whole", o.file(0, 'w'), 1);
            Check.same("with these parts alone", o.file(0, 'p'), parts);
            Check.same("the last cell", o.filePart(0, parts - 1, 3), 4 * parts - 1);
            if (parts < 16) {
                Check.refused("the part behind it", java.util.NoSuchElementException.class, o,
                        () -> o.filePart(0, parts, 0));
            }
            Check.doneAs(o, 0, 43, 0, parts - 1);
            Check.doneAs(o, parts < 16 ? 4 : 0, 43, 0, 15);
        }
    }

    /** "Each modulo 65536 as a number from 0 on". */
    private static void cellsAreTakenModulo() {
        int[][] same = {{-1, 65535}, {65536, 0}, {65537, 1}, {-65536, 0}, {-65537, 65535}, {LOW, 0}, {HIGH, 65535},
            {65521, 65521}, {65520, 65520}};
        for (int[] pair : same) {
            Orbithouse o = Check.near();
            Check.doneAs(o, 0, 38, 1, 0, pair[0], 0, 0, pair[0]);
            long h = (7 * 257 + pair[1]) % 65521;
            h = h * 257 % 65521 * 257 % 65521 * 257 % 65521;
            int sum = (int) ((h + pair[1]) % 65521);
            Check.same("D of " + pair[0], d(pair[0], 0, 0, pair[0]), sum);
            Check.doneAs(o, 0, 39, 1, 1, sum);
            Check.same("the cell as it was told", o.filePart(1, 0, 0), pair[0]);
        }
    }

    /** D is 0, and 65520, and no number beside it is taken for it. */
    private static void sumOfAFile() {
        for (int due : new int[] {0, 65520, 1}) {
            int base = d(0, 0, 0, 0);
            // The last cell makes D what is due.
            int cell = Math.floorMod(due - base, 65521);
            Check.same("D", d(0, 0, 0, cell), due);
            for (int wrong : new int[] {due - 1, due + 1, due + 65521, due - 65521, due + 65536}) {
                Orbithouse o = Check.near();
                Check.doneAs(o, 0, 38, 0, 0, 0, 0, 0, cell);
                Check.doneAs(o, 4, 39, 0, 1, wrong);
                Check.same("all its parts are gone", o.file(0, 'p'), 0);
                Check.same("not whole", o.file(0, 'w'), 0);
                o.step(3);
                Check.same("no report of class 4", Check.count(o, 4, 0), 0);
            }
            Orbithouse o = Check.near();
            Check.doneAs(o, 0, 38, 0, 0, 0, 0, 0, cell);
            Check.doneAs(o, 0, 39, 0, 1, due);
            o.step(3);
            Check.report("event 9", o, 1, 9, 0);
        }
    }

    /** Three files, each by itself: whole, told anew, and empty. */
    private static void filesByThemselves() {
        for (int file = 0; file < 3; file++) {
            Orbithouse o = Check.near();
            for (int i = 0; i < 3; i++) {
                Check.doneAs(o, 0, 38, i, 0, i, i, i, i);
                Check.doneAs(o, 0, 38, i, 1, i, i, i, i);
            }
            int sum = d(file, file, file, file);
            Check.doneAs(o, 0, 39, file, 1, sum);
            for (int i = 0; i < 3; i++) {
                Check.same("whole", o.file(i, 'w'), i == file ? 1 : 0);
                Check.same("parts", o.file(i, 'p'), i == file ? 1 : 2);
            }
            Check.doneAs(o, 4, 39, file, 1, sum);
            Check.doneAs(o, 4, 38, file, 5, 1, 1, 1, 1);
            Check.doneAs(o, 4, 38, file, 0, 1, 1, 1, 1);
            Check.same("as it was", o.filePart(file, 0, 3), file);
            Check.doneAs(o, 0, 40, file);
            for (int i = 0; i < 3; i++) {
                Check.same("whole", o.file(i, 'w'), 0);
                Check.same("parts", o.file(i, 'p'), i == file ? 0 : 2);
            }
            Check.doneAs(o, 0, 40, file);
            Check.doneAs(o, 4, 43, file, 0);
            Check.doneAs(o, 4, 39, file, 1, sum);
            o.step(3);
            Check.report("none is there", o, 4, file, 0);
            Check.doneAs(o, 0, 38, file, 0, 9, 9, 9, 9);
            Check.same("told anew", o.filePart(file, 0, 0), 9);
        }
    }
}
