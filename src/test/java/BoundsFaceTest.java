import java.util.NoSuchElementException;

/**
 * The boundaries of what each call of the face takes, on an object that has something of all: the least and the most
 * that are taken, those beside them, which exception comes first, and that a call that throws changes nothing.
 */
public final class BoundsFaceTest {
    private static final Class<?> ARGUMENT = IllegalArgumentException.class;
    private static final Class<?> STATE = IllegalStateException.class;
    private static final Class<?> INDEX = IndexOutOfBoundsException.class;
    private static final Class<?> ELEMENT = NoSuchElementException.class;
    private static final int LOW = Integer.MIN_VALUE;
    private static final int HIGH = Integer.MAX_VALUE;

    private interface At {
        long of(int index);
    }

    public static void main(String[] args) {
        signs();
        signsBehindIndexes();
        indexes();
        indexesOfTwo();
        ranges();
        rangesOfFour();
        whichComesFirst();
        throwsChangeNothingLater();
        answersBefore();
        emptyRows();
        checksums();
        Check.finish("BoundsFaceTest");
    }

    /** Two in SENT, one in order and one fast waiting, three in the queue, entries, rows, reports, files, an image. */
    private static Orbithouse busy() {
        Orbithouse o = Check.near();
        Check.doneAs(o, 0, 41, 1, 0);
        for (int i = 0; i < 3; i++) {
            Check.doneAs(o, 0, 6, i, 900 + i, i);
        }
        Check.doneAs(o, 0, 14, 3, 0, 1, 50);
        Check.doneAs(o, 0, 14, 3, 1, 1, 50);
        Check.doneAs(o, 0, 15, 3, 400);
        Check.doneAs(o, 0, 19, 2, 23);
        Check.doneAs(o, 0, 19, 2, 22);
        Check.doneAs(o, 0, 38, 2, 15, 1, 2, 3, 4);
        Check.doneAs(o, 0, 31, 0, 0, 6);
        Check.doneAs(o, 0, 20, 2, 1);
        o.step(2);
        Check.doneAs(o, 0, 20, 2, 0);
        Check.doneAs(o, 0, 33, 3);
        o.breakUnit(2, 'd');
        Check.doneAs(o, 0, 27, 0, 0, 3);
        // The frames of these two come as the receivers are dead.
        o.breakUnit(0, 'd');
        o.breakUnit(1, 'd');
        Check.tellInOrder(o, 0);
        Check.tellInOrder(o, 0);
        o.step(3);
        o.breakUnit(0, 'g');
        Check.together(o, Check.times(4, 0));
        o.step(1);
        o.sky(96, 0);
        Check.tellInOrder(o, 0);
        Check.tellFast(o, 0);
        return o;
    }

    /** Each call that takes a sign alone. */
    private static void signs() {
        Orbithouse o = busy();
        Check.only("ground", "owfsmntrcudbk", o, o::ground);
        Check.only("receiver", "ntlwa", o, o::receiver);
        Check.only("isOn", "sa0123lmn", o, c -> o.isOn(c) ? 1 : 0);
        Check.only("world", "bwarspnd", o, o::world);
    }

    /** Each call that takes an index and a sign, at the least index and the most. */
    private static void signsBehindIndexes() {
        Orbithouse o = busy();
        for (int i : new int[] {0, 1}) {
            Check.only("sentAt", "nom", o, c -> o.sentAt(i, c));
            Check.only("kept", "ntcabm", o, c -> o.kept(i == 0 ? 0 : o.ground('k') - 1, c));
            Check.only("queueAt", "kofxyzuvw", o, c -> o.queueAt(i * 2, c));
            Check.only("entryAt", "tgk", o, c -> o.entryAt(i * 2, c));
            Check.only("procedure", "srntle", o, c -> o.procedure(i * 3, c));
            Check.only("structure", "ni", o, c -> o.structure(i * 2, c));
            Check.only("monitor", "kpco", o, c -> o.monitor(i * 5, c));
            Check.only("event", "ta", o, c -> o.event(i * 15, c));
            Check.only("store", "nrc", o, c -> o.store(i * 2, c));
            Check.only("image", "wbns", o, c -> o.image(2 + i, c));
            Check.only("file", "wp", o, c -> o.file(i * 2, c));
            Check.only("unit", "obmst", o, c -> o.unit(i * 14, c));
        }
        // breakUnit() changes something: its three signs are taken here, all others refused.
        for (char how : "gds".toCharArray()) {
            o.breakUnit(14, how);
            Check.same("in truth", o.unit(14, 't'), how);
        }
        Check.only("breakUnit", "", o, c -> o.breakUnit(0, c == 'g' || c == 'd' || c == 's' ? '?' : c) ? 1 : 0);
    }

    /** From 0 on, so many: the least and the most are answered, those beside them are not there. */
    private static void from(String name, Orbithouse o, int least, int most, At at) {
        at.of(least);
        at.of(most);
        for (int bad : new int[] {LOW, least - 1, most + 1, HIGH}) {
            Check.refused(name + " at " + bad, INDEX, o, () -> at.of(bad));
        }
    }

    private static void indexes() {
        Orbithouse o = busy();
        from("sentAt", o, 0, o.ground('s') - 1, i -> o.sentAt(i, 'n'));
        from("kept", o, 0, o.ground('k') - 1, i -> o.kept(i, 'n'));
        for (int bad : new int[] {LOW, -1, o.ground('k'), HIGH}) {
            Check.refused("keptValue at " + bad, INDEX, o, () -> o.keptValue(bad, 0));
        }
        from("endOf", o, 0, o.ground('o') - 1, o::endOf);
        from("breakUnit", o, 0, 14, i -> o.breakUnit(i, o.unit(Math.max(0, Math.min(14, i)), 't') == 'd' ? 'd' : 'g')
                ? 1 : 0);
        from("parameter", o, 0, 23, o::parameter);
        from("queueAt", o, 0, o.parameter(6) - 1, i -> o.queueAt(i, 'k'));
        from("entryAt", o, 0, o.parameter(7) - 1, i -> o.entryAt(i, 't'));
        from("template", o, 0, 11, i -> o.template(i, 0));
        from("procedure", o, 0, 3, i -> o.procedure(i, 's'));
        from("structure", o, 0, 2, i -> o.structure(i, 'n'));
        from("monitor", o, 0, 5, i -> o.monitor(i, 'k'));
        from("event", o, 0, 15, i -> o.event(i, 't'));
        from("store", o, 0, 2, i -> o.store(i, 'n'));
        from("rowAt, played", o, 0, o.parameter(17) - 1, i -> o.rowAt(true, i));
        from("rowAt, at once", o, 0, o.parameter(16) - 1, i -> o.rowAt(false, i));
        from("image", o, 2, 3, i -> o.image(i, 'w'));
        from("file", o, 0, 2, i -> o.file(i, 'w'));
        from("unit", o, 0, 14, i -> o.unit(i, 'o'));
        Check.same("there was something in each row", o.ground('s') > 1 && o.parameter(6) > 1 && o.parameter(7) > 1
                && o.parameter(17) > 1 && o.parameter(16) > 1, true);
    }

    /** The same for calls with two indexes and three: each one alone is outside. */
    private static void indexesOfTwo() {
        Orbithouse o = busy();
        from("template", o, 0, 6, i -> o.template(11, i));
        from("register, procedure", o, 0, 3, i -> o.register(i, 3));
        from("register, index", o, 0, 3, i -> o.register(3, i));
        from("rowOf, procedure", o, 3, 3, i -> o.rowOf(i, 0, 0));
        from("rowOf, row", o, 0, 1, i -> o.rowOf(3, i, 3));
        from("rowOf, number", o, 0, 3, i -> o.rowOf(3, 1, i));
        from("structureAt, structure", o, 2, 2, i -> o.structureAt(i, 0));
        from("structureAt, index", o, 0, 1, i -> o.structureAt(2, i));
        from("storeAt, store", o, 0, 2, i -> o.storeAt(i, 0));
        from("storeAt, index", o, 0, o.store(0, 'n') - 1, i -> o.storeAt(0, i));
        from("byteAt, bank", o, 0, 3, i -> o.byteAt(i, 63));
        from("byteAt, place", o, 0, 63, i -> o.byteAt(3, i));
        from("bits, bank", o, 0, 3, i -> o.bits(i, 63));
        from("bits, place", o, 0, 63, i -> o.bits(3, i));
        from("flip, bank", o, 0, 3, i -> o.flip(i, 63, 12));
        from("flip, place", o, 0, 63, i -> o.flip(3, i, 12));
        for (int bad : new int[] {LOW, -1, 3, HIGH}) {
            Check.refused("filePart, file " + bad, INDEX, o, () -> o.filePart(bad, 15, 0));
        }
        for (int bad : new int[] {LOW, -1, 16, HIGH}) {
            Check.refused("filePart, part " + bad, INDEX, o, () -> o.filePart(2, bad, 0));
        }
        from("filePart, number", o, 0, 3, i -> o.filePart(2, 15, i));
        for (int bad : new int[] {LOW, -1, 6, HIGH}) {
            int at = Check.latest(o, 3, 0);
            Check.refused("keptValue", ELEMENT, o, () -> o.keptValue(at, bad));
        }
        Check.same("the sixth value", o.keptValue(Check.latest(o, 3, 0), 5), 4);
        for (int part : new int[] {0, 14}) {
            Check.refused("filePart that is not there", ELEMENT, o, () -> o.filePart(2, part, 0));
        }
        Check.refused("filePart of an empty file", ELEMENT, o, () -> o.filePart(0, 15, 3));
    }

    /** A number that is taken from least to most; a call beside changes nothing. */
    private static void range(String name, int least, int most, Orbithouse o, At at) {
        at.of(least);
        at.of(most);
        for (int bad : new int[] {LOW, least - 1, most + 1, HIGH}) {
            Check.refused(name + " of " + bad, ARGUMENT, o, () -> at.of(bad));
        }
    }

    private static void ranges() {
        Orbithouse o = busy();
        range("sky, sun", 0, 96, o, i -> o.sky(i, 48));
        range("sky, pass", 0, 48, o, i -> o.sky(96, i));
        range("seed", 0, 65535, o, o::seed);
        range("step", 1, 300, o, o::step);
        range("window", 1, 20, o, i -> o.window(i, 5, 1));
        range("time", 5, 60, o, i -> o.window(20, i, 9));
        range("limit", 1, 9, o, i -> o.window(1, 60, i));
        range("drain", 0, 1000, o, o::drain);
        range("flip, bit", 0, 12, o, i -> o.flip(3, 63, i));
        for (int number : new int[] {0, 63}) {
            Orbithouse p = Check.near();
            p.begin(number);
            Check.same("SEND", p.ground('n'), number);
        }
        for (int bad : new int[] {LOW, -1, 64, HIGH}) {
            Orbithouse p = Check.near();
            Check.refused("begin of " + bad, ARGUMENT, p, () -> p.begin(bad));
        }
    }

    private static void rangesOfFour() {
        Orbithouse o = busy();
        for (boolean isUp : new boolean[] {true, false}) {
            range("link, delay", 1, 9, o, i -> o.link(isUp, i, 0, 0, 0, 0));
            range("link, gone", 0, 9, o, i -> o.link(isUp, 1, i, 9, 9, 9));
            range("link, late", 0, 9, o, i -> o.link(isUp, 9, 9, i, 0, 9));
            range("link, twice", 0, 9, o, i -> o.link(isUp, 1, 0, 9, i, 0));
            range("link, bent", 0, 9, o, i -> o.link(isUp, 9, 9, 9, 9, i));
        }
    }

    /** "If several exceptions apply, the one that is documented first is thrown." */
    private static void whichComesFirst() {
        Orbithouse o = busy();
        Check.refused("step of 301 with T", ARGUMENT, o, () -> o.step(301));
        Check.refused("begin: range ahead of state", ARGUMENT, o, () -> o.begin(64));
        Check.refused("begin: state", STATE, o, () -> o.begin(63));
        Check.refused("unlock", STATE, o, o::unlock);
        Check.refused("resume", STATE, o, o::resume);
        Check.refused("sentAt", INDEX, o, () -> o.sentAt(2, '?'));
        Check.refused("kept", INDEX, o, () -> o.kept(-1, '?'));
        Check.refused("keptValue", INDEX, o, () -> o.keptValue(-1, -1));
        Check.refused("breakUnit", INDEX, o, () -> o.breakUnit(15, '?'));
        Check.refused("flip, bank", INDEX, o, () -> o.flip(4, 0, 13));
        Check.refused("flip, place", INDEX, o, () -> o.flip(0, 64, -1));
        Check.refused("queueAt", INDEX, o, () -> o.queueAt(8, '?'));
        Check.refused("entryAt", INDEX, o, () -> o.entryAt(16, '?'));
        Check.refused("procedure", INDEX, o, () -> o.procedure(4, '?'));
        Check.refused("structure", INDEX, o, () -> o.structure(3, '?'));
        Check.refused("monitor", INDEX, o, () -> o.monitor(6, '?'));
        Check.refused("event", INDEX, o, () -> o.event(16, '?'));
        Check.refused("store", INDEX, o, () -> o.store(3, '?'));
        Check.refused("image", INDEX, o, () -> o.image(4, '?'));
        Check.refused("image", INDEX, o, () -> o.image(1, '?'));
        Check.refused("file", INDEX, o, () -> o.file(3, '?'));
        Check.refused("filePart", INDEX, o, () -> o.filePart(0, 0, 4));
        Check.refused("filePart", INDEX, o, () -> o.filePart(0, 16, 0));
        Check.refused("unit", INDEX, o, () -> o.unit(15, '?'));
    }

    /** Two objects, one of which is asked all that is refused: they stay the same all along. */
    private static void throwsChangeNothingLater() {
        Orbithouse o = busy();
        Orbithouse twin = busy();
        o.sky(90, 40);
        twin.sky(90, 40);
        o.link(true, 1, 2, 2, 2, 2);
        twin.link(true, 1, 2, 2, 2, 2);
        for (int i = 0; i < 60; i++) {
            Check.refused("link", ARGUMENT, o, () -> o.link(true, 3, 1, 1, 1, 10));
            Check.refused("sky", ARGUMENT, o, () -> o.sky(3, 49));
            Check.refused("seed", ARGUMENT, o, () -> o.seed(65536));
            Check.refused("window", ARGUMENT, o, () -> o.window(7, 7, 10));
            Check.refused("step", ARGUMENT, o, () -> o.step(0));
            Check.refused("drain", ARGUMENT, o, () -> o.drain(-1));
            Check.refused("flip", ARGUMENT, o, () -> o.flip(0, 0, 13));
            o.step(3);
            twin.step(3);
            Check.same("the same as without them", Check.look(o).equals(Check.look(twin)), true);
        }
        Check.same("z too", o.seed(3), twin.seed(3));
        Check.same("the window too", o.window(2, 5, 1), twin.window(2, 5, 1));
        Check.same("the delay too", o.link(true, 2, 0, 0, 0, 0), twin.link(true, 2, 0, 0, 0, 0));
    }

    /** What sky(), link(), seed() and window() answer is what was ahead of the call, of each by itself. */
    private static void answersBefore() {
        Orbithouse o = new Orbithouse();
        Check.same("sky", o.sky(0, 48), 60);
        Check.same("sky", o.sky(96, 0), 0);
        Check.same("sky", o.sky(1, 1), 96);
        Check.same("link up", o.link(true, 9, 0, 0, 0, 0), 2);
        Check.same("link down", o.link(false, 5, 0, 0, 0, 0), 2);
        Check.same("link up", o.link(true, 1, 0, 0, 0, 0), 9);
        Check.same("link down", o.link(false, 1, 0, 0, 0, 0), 5);
        Check.same("seed", o.seed(65535), 1);
        Check.same("seed", o.seed(0), 65535);
        Check.same("seed", o.seed(1), 0);
        Check.same("window", o.window(20, 5, 1), 5);
        Check.same("window", o.window(1, 60, 9), 20);
        Check.same("window", o.window(5, 20, 3), 1);
    }

    /** Rows that were full, or had something, and are empty again. */
    private static void emptyRows() {
        Orbithouse o = busy();
        o.sky(96, 48);
        o.breakUnit(2, 'g');
        o.step(300);
        o.step(300);
        Check.same("SENT", o.ground('s'), 0);
        Check.refused("SENT", INDEX, o, () -> o.sentAt(0, 'n'));
        Check.same("queue", o.parameter(6), 0);
        Check.refused("queue", INDEX, o, () -> o.queueAt(0, 'k'));
        Check.same("at once", o.parameter(16), 0);
        Check.refused("at once", INDEX, o, () -> o.rowAt(false, 0));
        Check.same("played", o.parameter(17), 0);
        Check.refused("played", INDEX, o, () -> o.rowAt(true, 0));
        o.step(300);
        Check.same("entries", o.parameter(7), 0);
        Check.refused("entries", INDEX, o, () -> o.entryAt(0, 't'));
        Check.doneAs(o, 0, 18, 3);
        Check.refused("rows", INDEX, o, () -> o.rowOf(3, 0, 0));
        Check.doneAs(o, 0, 19, 2, -1);
        Check.refused("parameters", INDEX, o, () -> o.structureAt(2, 0));
        Check.doneAs(o, 0, 40, 2);
        Check.refused("parts", ELEMENT, o, () -> o.filePart(2, 15, 0));
        Check.doneAs(o, 0, 29, 2, HIGH);
        Check.refused("store", INDEX, o, () -> o.storeAt(2, 0));
        Check.same("sound", o.isSound(), true);
        Check.same("true", o.isTrue(), true);
    }

    /** Each number that checksum() counts, as it is not 0: turns, tries, a rate below 0, ends of all sorts. */
    private static void checksums() {
        Orbithouse o = Check.near();
        Check.same("at first", o.checksum(), FaceTest.checksum(o));
        o.begin(63);
        o.step(3);
        Check.same("turns", o.checksum(), FaceTest.checksum(o));
        for (int i = 0; i < 3; i++) {
            Check.tellInOrder(o, i);
            Check.tellFast(o, 1);
            Check.tellFast(o, 99);
        }
        o.flip(0, 0, 0);
        o.flip(3, 63, 12);
        for (int i = 0; i < 12; i++) {
            o.step(1);
            Check.same("commands", o.checksum(), FaceTest.checksum(o));
        }
        o.breakUnit(0, 'd');
        o.breakUnit(1, 'd');
        o.window(5, 5, 9);
        Check.tellInOrder(o, 0);
        Check.tellFast(o, 0);
        for (int i = 0; i < 40; i++) {
            o.step(1);
            Check.same("tries", o.checksum(), FaceTest.checksum(o));
        }
        Check.same("tries", o.ground('r') > 3, true);
        o.breakUnit(0, 'g');
        o.hang();
        for (int i = 0; i < 12; i++) {
            o.step(1);
            Check.same("a reset", o.checksum(), FaceTest.checksum(o));
        }
        Orbithouse p = Check.near();
        Check.together(p, Check.times(5, 37));
        p.step(1);
        Check.same("ends of 9", p.endOf(4), 9);
        Check.same("ends of 9", p.checksum(), FaceTest.checksum(p));
        Orbithouse q = Check.near();
        Check.together(q, Check.times(8, 0));
        q.step(1);
        Check.same("ends of -2", q.checksum(), FaceTest.checksum(q));
    }
}
