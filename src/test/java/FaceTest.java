import java.util.NoSuchElementException;

/** Promises 1 to 50 by themselves: what a new object answers, the edges of what calls take, and what they throw. */
public final class FaceTest {
    private static final Class<?> ARGUMENT = IllegalArgumentException.class;
    private static final Class<?> STATE = IllegalStateException.class;
    private static final Class<?> INDEX = IndexOutOfBoundsException.class;
    private static final Class<?> ELEMENT = NoSuchElementException.class;
    private static final int[] OUTSIDE = {Integer.MIN_VALUE, -1, Integer.MAX_VALUE};

    public static void main(String[] args) {
        newObject();
        newRows();
        newMemory();
        skyLinkSeed();
        step();
        tell();
        groundControls();
        groundLooks();
        keptLooks();
        faults();
        boardLooks();
        boardLooksOfTwo();
        memoryLooks();
        figures();
        Check.finish("FaceTest");
    }

    private static void newObject() {
        Orbithouse o = new Orbithouse();
        Check.same("state", o.state(), 'a');
        Check.same("board", o.board(), 'r');
        for (char c : "owfsmntrcudbk".toCharArray()) {
            Check.same("ground " + c, o.ground(c), 0);
        }
        for (char c : "ntlwa".toCharArray()) {
            Check.same("receiver " + c, o.receiver(c), 0);
        }
        int[] parameters = {0, 1, 800, 10, 0, 0, 0, 0, 8, 0, 0, 0, 0, 0, 0, 0, 0, 0, 0, 0, 0, 0, 2, 1};
        for (int i = 0; i < 24; i++) {
            Check.same("parameter " + i, o.parameter(i), parameters[i]);
        }
        for (char c : "sa".toCharArray()) {
            Check.same("isOn " + c, o.isOn(c), false);
        }
        for (char c : "0123lmn".toCharArray()) {
            Check.same("isOn " + c, o.isOn(c), true);
        }
        int[] world = {800, 10, 20, 0, 1, 1, 0, 0};
        for (int i = 0; i < 8; i++) {
            Check.same("world " + "bwarspnd".charAt(i), o.world("bwarspnd".charAt(i)), world[i]);
        }
        for (int i = 0; i < 15; i++) {
            boolean isOn = i <= 2 || i == 4 || i == 6 || i >= 10 && i <= 12;
            Check.same("unit on " + i, o.unit(i, 'o'), isOn ? 1 : 0);
            Check.same("unit bad " + i, o.unit(i, 'b'), 0);
            Check.same("unit misses " + i, o.unit(i, 'm'), 0);
            Check.same("unit still " + i, o.unit(i, 's'), 0);
            Check.same("unit truth " + i, o.unit(i, 't'), 'g');
        }
        Check.same("sound", o.isSound(), true);
        Check.same("true", o.isTrue(), true);
        Check.near("share", o.onShare(), 8f / 15f);
    }

    private static void newRows() {
        Orbithouse o = new Orbithouse();
        for (int i = 0; i < 12; i++) {
            for (int j = 0; j < 7; j++) {
                Check.same("template", o.template(i, j), 0);
            }
        }
        for (int i = 0; i < 4; i++) {
            for (char c : "srntl".toCharArray()) {
                Check.same("procedure " + c, o.procedure(i, c), 0);
            }
            Check.same("procedure e", o.procedure(i, 'e'), -1);
            for (int j = 0; j < 4; j++) {
                Check.same("register", o.register(i, j), 0);
            }
        }
        int[] classes = {3, 4, 56};
        for (int i = 0; i < 3; i++) {
            Check.same("structure n", o.structure(i, 'n'), 0);
            Check.same("structure i", o.structure(i, 'i'), 0);
            Check.same("store n", o.store(i, 'n'), 0);
            Check.same("store r", o.store(i, 'r'), 1);
            Check.same("store c", o.store(i, 'c'), classes[i]);
        }
        for (int i = 0; i < 6; i++) {
            for (char c : "kpco".toCharArray()) {
                Check.same("monitor " + c, o.monitor(i, c), 0);
            }
        }
        for (int i = 0; i < 16; i++) {
            Check.same("event t", o.event(i, 't'), 1);
            Check.same("event a", o.event(i, 'a'), -1);
        }
    }

    private static void newMemory() {
        Orbithouse o = new Orbithouse();
        int[] first = {40, 25, 3, 50, 20, 4, 95, 105};
        for (int bank = 0; bank < 4; bank++) {
            for (int place = 0; place < 64; place++) {
                int due = place < 8 && bank != 1 ? first[place] : place == 8 && bank >= 2 ? bank - 1 : 0;
                Check.same("byte " + bank + " " + place, o.byteAt(bank, place), due);
            }
        }
        for (int image = 2; image < 4; image++) {
            int sum = 7;
            for (int place = 0; place < 64; place++) {
                sum = (257 * sum + o.byteAt(image, place)) % 65521;
            }
            Check.same("image s", o.image(image, 's'), sum);
            Check.same("image w", o.image(image, 'w'), 1);
            Check.same("image b", o.image(image, 'b'), 0);
            Check.same("image n", o.image(image, 'n'), image == 2 ? 1 : 0);
        }
        for (int file = 0; file < 3; file++) {
            Check.same("file w", o.file(file, 'w'), 0);
            Check.same("file p", o.file(file, 'p'), 0);
        }
    }

    private static void skyLinkSeed() {
        Orbithouse o = new Orbithouse();
        Check.same("sky", o.sky(0, 0), 60);
        Check.same("no SUN", o.world('s'), 0);
        Check.same("no SUN as parameter", o.parameter(23), 0);
        Check.same("no PASS", o.world('p'), 0);
        Check.same("sky", o.sky(96, 48), 0);
        Check.same("SUN", o.world('s'), 1);
        Check.same("PASS", o.world('p'), 1);
        Check.same("sky", o.sky(1, 1), 96);
        for (int bad : new int[] {Integer.MIN_VALUE, -1, 97, Integer.MAX_VALUE}) {
            Check.refused("sky sun " + bad, ARGUMENT, o, () -> o.sky(bad, 3));
        }
        for (int bad : new int[] {Integer.MIN_VALUE, -1, 49, Integer.MAX_VALUE}) {
            Check.refused("sky pass " + bad, ARGUMENT, o, () -> o.sky(3, bad));
        }
        Check.same("sky kept", o.sky(60, 16), 1);
        Check.same("link", o.link(true, 9, 9, 9, 9, 9), 2);
        Check.same("link down is another", o.link(false, 1, 0, 0, 0, 0), 2);
        for (int bad : new int[] {Integer.MIN_VALUE, -1, 10, Integer.MAX_VALUE}) {
            Check.refused("link delay", ARGUMENT, o, () -> o.link(true, bad, 0, 0, 0, 0));
            Check.refused("link gone", ARGUMENT, o, () -> o.link(true, 5, bad, 0, 0, 0));
            Check.refused("link late", ARGUMENT, o, () -> o.link(true, 5, 0, bad, 0, 0));
            Check.refused("link twice", ARGUMENT, o, () -> o.link(true, 5, 0, 0, bad, 0));
            Check.refused("link bent", ARGUMENT, o, () -> o.link(true, 5, 0, 0, 0, bad));
        }
        Check.refused("link delay 0", ARGUMENT, o, () -> o.link(false, 0, 0, 0, 0, 0));
        Check.same("link kept", o.link(true, 1, 0, 0, 0, 0), 9);
        Check.same("link kept down", o.link(false, 3, 0, 0, 0, 0), 1);
        Check.same("seed", o.seed(65535), 1);
        Check.same("seed", o.seed(0), 65535);
        for (int bad : new int[] {Integer.MIN_VALUE, -1, 65536, Integer.MAX_VALUE}) {
            Check.refused("seed " + bad, ARGUMENT, o, () -> o.seed(bad));
        }
        Check.same("seed kept", o.seed(77), 0);
    }

    private static void step() {
        Orbithouse o = new Orbithouse();
        Check.same("step", o.step(1), 1);
        Check.same("step", o.step(300), 301);
        for (int bad : new int[] {Integer.MIN_VALUE, -1, 0, 301, Integer.MAX_VALUE}) {
            Check.refused("step " + bad, ARGUMENT, o, () -> o.step(bad));
        }
        for (int i = 0; i < 12; i++) {
            o.step(300);
        }
        Check.same("step", o.step(98), 3999);
        Check.refused("step over", STATE, o, () -> o.step(2));
        Check.refused("range ahead of T", ARGUMENT, o, () -> o.step(301));
        Check.same("step", o.step(1), 4000);
        Check.refused("step behind the last", STATE, o, () -> o.step(1));
        Check.same("T", o.parameter(0), 4000);
        Check.same("sound", o.isSound(), true);
        Check.same("true", o.isTrue(), true);
    }

    private static void tell() {
        Orbithouse o = new Orbithouse();
        for (int i = 0; i < 24; i++) {
            Check.same("tell", o.tell(false, i, 1, 2, 3, 4, 5, 6), 2 * i);
            Check.same("tell fast", o.tell(true, -i, 1, 2, 3, 4, 5, 6), 2 * i + 1);
        }
        Check.same("orders", o.ground('o'), 48);
        Check.same("wait", o.ground('w'), 24);
        Check.same("fast", o.ground('f'), 24);
        Check.refused("25 in order", STATE, o, () -> o.tell(false, 0, 0, 0, 0, 0, 0, 0));
        Check.refused("25 fast", STATE, o, () -> o.tell(true, 0, 0, 0, 0, 0, 0, 0));
        o.step(1);
        Check.same("fast ahead", o.ground('f'), 23);
        Check.same("next order", o.tell(true, 0, 0, 0, 0, 0, 0, 0), 48);
        Check.refused("25 in order", STATE, o, () -> o.tell(false, 0, 0, 0, 0, 0, 0, 0));
    }

    private static void groundControls() {
        Orbithouse o = new Orbithouse();
        for (int bad : new int[] {Integer.MIN_VALUE, -1, 64, Integer.MAX_VALUE}) {
            Check.refused("begin " + bad, ARGUMENT, o, () -> o.begin(bad));
        }
        Check.refused("unlock", STATE, o, o::unlock);
        Check.refused("resume", STATE, o, o::resume);
        Check.same("window", o.window(20, 60, 9), 5);
        Check.same("window", o.window(1, 5, 1), 20);
        for (int bad : new int[] {Integer.MIN_VALUE, 0, 21, Integer.MAX_VALUE}) {
            Check.refused("window", ARGUMENT, o, () -> o.window(bad, 20, 3));
        }
        for (int bad : new int[] {Integer.MIN_VALUE, 4, 61, Integer.MAX_VALUE}) {
            Check.refused("time", ARGUMENT, o, () -> o.window(5, bad, 3));
        }
        for (int bad : new int[] {Integer.MIN_VALUE, 0, 10, Integer.MAX_VALUE}) {
            Check.refused("limit", ARGUMENT, o, () -> o.window(5, 20, bad));
        }
        Check.same("window kept", o.window(5, 20, 3), 1);
        Check.same("begin", o.begin(63), 1);
        Check.same("SEND", o.ground('n'), 63);
        Check.same("state", o.state(), 'c');
        Check.refused("begin again", STATE, o, () -> o.begin(3));
        Check.refused("argument ahead of state", ARGUMENT, o, () -> o.begin(64));
    }

    private static void groundLooks() {
        Orbithouse o = new Orbithouse();
        for (char bad : new char[] {0, 'a', 'x', 'O', 255}) {
            Check.refused("ground " + (int) bad, ARGUMENT, o, () -> o.ground(bad));
        }
        Check.refused("sentAt without one", INDEX, o, () -> o.sentAt(0, 'n'));
        Check.refused("index ahead", INDEX, o, () -> o.sentAt(0, '?'));
        Check.refused("endOf without one", INDEX, o, () -> o.endOf(0));
        int order = o.tell(false, 0, 0, 0, 0, 0, 0, 0);
        Check.same("end", o.endOf(order), -1);
        Check.refused("endOf", INDEX, o, () -> o.endOf(1));
        Check.refused("endOf", INDEX, o, () -> o.endOf(-1));
        o.step(1);
        Check.same("sent n", o.sentAt(0, 'n'), 0);
        Check.same("sent o", o.sentAt(0, 'o'), 0);
        Check.same("sent m", o.sentAt(0, 'm'), 0);
        Check.refused("sentAt", INDEX, o, () -> o.sentAt(1, 'n'));
        Check.refused("sentAt", INDEX, o, () -> o.sentAt(-1, 'n'));
        Check.refused("sentAt what", ARGUMENT, o, () -> o.sentAt(0, 'x'));
    }

    private static void keptLooks() {
        Orbithouse o = Check.near();
        Check.refused("kept without one", INDEX, o, () -> o.kept(0, 'n'));
        Check.refused("kept index ahead", INDEX, o, () -> o.kept(0, '?'));
        Check.refused("keptValue without one", INDEX, o, () -> o.keptValue(0, 0));
        Check.same("hasKept", o.hasKept(0), false);
        Check.doneAs(o, 0, 31, 0, 2, 3);
        o.step(3);
        Check.same("kept", o.ground('k'), 2);
        int[] due = {0, 2, 3, 0, 2, 3};
        for (int i = 0; i < 6; i++) {
            Check.same("kept " + "ntcabm".charAt(i), o.kept(0, "ntcabm".charAt(i)), due[i]);
        }
        Check.same("value", o.keptValue(0, 0), 3);
        Check.same("value", o.keptValue(0, 1), 50);
        Check.same("value", o.keptValue(0, 2), 20);
        int[] end = {1, 2, 0, 0, 0, 0};
        for (int i = 0; i < 6; i++) {
            Check.same("kept end " + "ntcabm".charAt(i), o.kept(1, "ntcabm".charAt(i)), end[i]);
        }
        Check.refused("no value 3", ELEMENT, o, () -> o.keptValue(0, 3));
        Check.refused("no value -1", ELEMENT, o, () -> o.keptValue(0, -1));
        Check.refused("no value at all", ELEMENT, o, () -> o.keptValue(1, 0));
        for (int bad : new int[] {-1, 2, Integer.MIN_VALUE, Integer.MAX_VALUE}) {
            Check.refused("kept", INDEX, o, () -> o.kept(bad, 'n'));
            Check.refused("keptValue", INDEX, o, () -> o.keptValue(bad, 0));
        }
        Check.refused("kept what", ARGUMENT, o, () -> o.kept(0, 'v'));
        Check.same("hasKept 0", o.hasKept(0), true);
        Check.same("hasKept 1", o.hasKept(1), true);
        Check.same("hasKept 2", o.hasKept(2), false);
        Check.same("hasKept -1", o.hasKept(-1), false);
    }

    private static void faults() {
        Orbithouse o = new Orbithouse();
        Check.same("break", o.breakUnit(0, 'd'), true);
        Check.same("break", o.breakUnit(0, 's'), false);
        Check.same("truth", o.unit(0, 't'), 's');
        Check.same("break", o.breakUnit(0, 'g'), false);
        Check.same("break", o.breakUnit(0, 'g'), true);
        Check.same("break", o.breakUnit(14, 'd'), true);
        Check.same("truth", o.unit(14, 't'), 'd');
        for (int bad : new int[] {-1, 15, Integer.MIN_VALUE, Integer.MAX_VALUE}) {
            Check.refused("breakUnit", INDEX, o, () -> o.breakUnit(bad, 'd'));
            Check.refused("breakUnit both", INDEX, o, () -> o.breakUnit(bad, 'x'));
        }
        for (char bad : new char[] {0, 'x', 'G', 'o'}) {
            Check.refused("breakUnit how", ARGUMENT, o, () -> o.breakUnit(3, bad));
        }
        for (int bad : new int[] {-1, 4, Integer.MIN_VALUE, Integer.MAX_VALUE}) {
            Check.refused("flip bank", INDEX, o, () -> o.flip(bad, 0, 0));
        }
        for (int bad : new int[] {-1, 64, Integer.MIN_VALUE, Integer.MAX_VALUE}) {
            Check.refused("flip place", INDEX, o, () -> o.flip(0, bad, 0));
            Check.refused("flip place and bit", INDEX, o, () -> o.flip(0, bad, 13));
        }
        for (int bad : new int[] {-1, 13, 32, Integer.MIN_VALUE, Integer.MAX_VALUE}) {
            Check.refused("flip bit", ARGUMENT, o, () -> o.flip(0, 0, bad));
        }
        for (int bad : new int[] {-1, 1001, Integer.MIN_VALUE, Integer.MAX_VALUE}) {
            Check.refused("drain", ARGUMENT, o, () -> o.drain(bad));
        }
        Check.same("drain", o.drain(0), 800);
        Check.same("drain", o.drain(100), 700);
        Check.same("drain", o.drain(1000), 0);
        Check.same("battery", o.world('b'), 0);
        Check.same("hang", o.hang(), true);
        Check.same("board", o.board(), 'h');
        Check.refused("hang twice", STATE, o, o::hang);
    }

    private static void boardLooks() {
        Orbithouse o = new Orbithouse();
        for (int bad : new int[] {-1, 24, Integer.MIN_VALUE, Integer.MAX_VALUE}) {
            Check.refused("parameter", INDEX, o, () -> o.parameter(bad));
        }
        for (char bad : new char[] {0, 'x', 'N', 300}) {
            Check.refused("receiver", ARGUMENT, o, () -> o.receiver(bad));
            Check.refused("isOn", ARGUMENT, o, () -> o.isOn(bad));
            Check.refused("world", ARGUMENT, o, () -> o.world(bad));
        }
        for (char bad : new char[] {'4', '/', 'k', 'o'}) {
            Check.refused("isOn " + bad, ARGUMENT, o, () -> o.isOn(bad));
        }
        Check.refused("queueAt", INDEX, o, () -> o.queueAt(0, 'k'));
        Check.refused("queueAt both", INDEX, o, () -> o.queueAt(0, '?'));
        Check.refused("entryAt", INDEX, o, () -> o.entryAt(0, 't'));
        Check.refused("entryAt both", INDEX, o, () -> o.entryAt(0, '?'));
        Check.refused("rowAt", INDEX, o, () -> o.rowAt(true, 0));
        Check.refused("rowAt", INDEX, o, () -> o.rowAt(false, 0));
        for (int bad : OUTSIDE) {
            Check.refused("queueAt", INDEX, o, () -> o.queueAt(bad, 'k'));
            Check.refused("entryAt", INDEX, o, () -> o.entryAt(bad, 't'));
            Check.refused("template", INDEX, o, () -> o.template(bad, 0));
            Check.refused("template", INDEX, o, () -> o.template(0, bad));
            Check.refused("procedure", INDEX, o, () -> o.procedure(bad, 's'));
            Check.refused("register", INDEX, o, () -> o.register(bad, 0));
            Check.refused("register", INDEX, o, () -> o.register(0, bad));
            Check.refused("rowOf", INDEX, o, () -> o.rowOf(bad, 0, 0));
            Check.refused("structure", INDEX, o, () -> o.structure(bad, 'n'));
            Check.refused("structureAt", INDEX, o, () -> o.structureAt(bad, 0));
            Check.refused("monitor", INDEX, o, () -> o.monitor(bad, 'k'));
            Check.refused("event", INDEX, o, () -> o.event(bad, 't'));
            Check.refused("store", INDEX, o, () -> o.store(bad, 'n'));
            Check.refused("storeAt", INDEX, o, () -> o.storeAt(bad, 0));
            Check.refused("rowAt", INDEX, o, () -> o.rowAt(false, bad));
            Check.refused("unit", INDEX, o, () -> o.unit(bad, 'o'));
        }
        Check.refused("template 12", INDEX, o, () -> o.template(12, 0));
        Check.refused("template 7", INDEX, o, () -> o.template(0, 7));
        Check.refused("procedure 4", INDEX, o, () -> o.procedure(4, '?'));
        Check.refused("register 4", INDEX, o, () -> o.register(4, 0));
        Check.refused("register 4", INDEX, o, () -> o.register(0, 4));
        Check.refused("rowOf without rows", INDEX, o, () -> o.rowOf(0, 0, 0));
        Check.refused("structure 3", INDEX, o, () -> o.structure(3, '?'));
        Check.refused("structureAt 3", INDEX, o, () -> o.structureAt(3, 0));
        Check.refused("structureAt without one", INDEX, o, () -> o.structureAt(0, 0));
        Check.refused("monitor 6", INDEX, o, () -> o.monitor(6, '?'));
        Check.refused("event 16", INDEX, o, () -> o.event(16, '?'));
        Check.refused("store 3", INDEX, o, () -> o.store(3, '?'));
        Check.refused("storeAt 3", INDEX, o, () -> o.storeAt(3, 0));
        Check.refused("storeAt without one", INDEX, o, () -> o.storeAt(0, 0));
        Check.refused("unit 15", INDEX, o, () -> o.unit(15, '?'));
        for (char bad : new char[] {0, '?', 255}) {
            Check.refused("procedure what", ARGUMENT, o, () -> o.procedure(3, bad));
            Check.refused("structure what", ARGUMENT, o, () -> o.structure(2, bad));
            Check.refused("monitor what", ARGUMENT, o, () -> o.monitor(5, bad));
            Check.refused("event what", ARGUMENT, o, () -> o.event(15, bad));
            Check.refused("store what", ARGUMENT, o, () -> o.store(2, bad));
            Check.refused("unit what", ARGUMENT, o, () -> o.unit(14, bad));
        }
    }

    /** Looks that need something to look at. */
    private static void boardLooksOfTwo() {
        Orbithouse o = Check.near();
        Check.doneAs(o, 0, 14, 1, 0, 9, 7, 8, -9);
        for (int i = 0; i < 4; i++) {
            Check.same("rowOf", o.rowOf(1, 0, i), new int[] {9, 7, 8, -9}[i]);
        }
        Check.refused("rowOf number", INDEX, o, () -> o.rowOf(1, 0, 4));
        Check.refused("rowOf number", INDEX, o, () -> o.rowOf(1, 0, -1));
        Check.refused("rowOf row", INDEX, o, () -> o.rowOf(1, 1, 0));
        Check.refused("rowOf row", INDEX, o, () -> o.rowOf(1, -1, 0));
        Check.refused("rowOf procedure", INDEX, o, () -> o.rowOf(4, 0, 0));
        Check.doneAs(o, 0, 19, 2, 23);
        Check.same("structureAt", o.structureAt(2, 0), 23);
        Check.refused("structureAt", INDEX, o, () -> o.structureAt(2, 1));
        Check.refused("structureAt", INDEX, o, () -> o.structureAt(2, -1));
        Check.doneAs(o, 0, 4, 3, 9, 1, 2, 3, 4);
        Check.doneAs(o, 0, 5, 3, 5, 6);
        for (int i = 0; i < 7; i++) {
            Check.same("template", o.template(3, i), new int[] {9, 1, 2, 3, 4, 5, 6}[i]);
        }
        Check.doneAs(o, 0, 6, 3, 500, 2);
        Check.same("entry t", o.entryAt(0, 't'), 500);
        Check.same("entry g", o.entryAt(0, 'g'), 2);
        Check.same("entry k", o.entryAt(0, 'k'), 9);
        Check.refused("entry 1", INDEX, o, () -> o.entryAt(1, 't'));
        Check.refused("entry what", ARGUMENT, o, () -> o.entryAt(0, 'x'));
        Check.same("store 0", o.store(0, 'n'), 5);
        for (int i = 0; i < 5; i++) {
            Check.same("storeAt", o.storeAt(0, i), i);
        }
        Check.refused("storeAt", INDEX, o, () -> o.storeAt(0, 5));
        int order = o.tell(false, 99, 11, 12, 13, 14, 15, 16);
        int other = o.tell(false, 98, 0, 0, 0, 0, 0, 0);
        o.link(true, 2, 0, 0, 0, 0);
        o.step(1);
        o.link(true, 1, 0, 0, 0, 0);
        o.step(1);
        // Both arrive in the next tick: the first one is done, the second one waits.
        o.step(1);
        Check.same("end of the first", o.endOf(order), 1);
        Check.same("the other waits", o.endOf(other), -2);
        Check.same("queue k", o.queueAt(0, 'k'), 98);
        Check.same("queue o", o.queueAt(0, 'o'), other);
        Check.same("queue f", o.queueAt(0, 'f'), 'g');
        Check.refused("queue 1", INDEX, o, () -> o.queueAt(1, 'k'));
        Check.refused("queue what", ARGUMENT, o, () -> o.queueAt(0, 'q'));
    }

    private static void memoryLooks() {
        Orbithouse o = new Orbithouse();
        for (int bad : new int[] {-1, 4, Integer.MIN_VALUE, Integer.MAX_VALUE}) {
            Check.refused("byteAt bank", INDEX, o, () -> o.byteAt(bad, 0));
            Check.refused("bits bank", INDEX, o, () -> o.bits(bad, 0));
        }
        for (int bad : new int[] {-1, 64, Integer.MIN_VALUE, Integer.MAX_VALUE}) {
            Check.refused("byteAt place", INDEX, o, () -> o.byteAt(1, bad));
            Check.refused("bits place", INDEX, o, () -> o.bits(1, bad));
        }
        for (int bad : new int[] {1, 4, Integer.MIN_VALUE, Integer.MAX_VALUE}) {
            Check.refused("image", INDEX, o, () -> o.image(bad, 'w'));
            Check.refused("image both", INDEX, o, () -> o.image(bad, '?'));
        }
        Check.refused("image what", ARGUMENT, o, () -> o.image(3, '?'));
        for (int bad : new int[] {-1, 3, Integer.MIN_VALUE, Integer.MAX_VALUE}) {
            Check.refused("file", INDEX, o, () -> o.file(bad, 'w'));
            Check.refused("file both", INDEX, o, () -> o.file(bad, '?'));
            Check.refused("filePart", INDEX, o, () -> o.filePart(bad, 0, 0));
        }
        Check.refused("file what", ARGUMENT, o, () -> o.file(2, '?'));
        Check.refused("filePart part", INDEX, o, () -> o.filePart(0, 16, 0));
        Check.refused("filePart part", INDEX, o, () -> o.filePart(0, -1, 0));
        Check.refused("filePart number", INDEX, o, () -> o.filePart(0, 0, 4));
        Check.refused("filePart number", INDEX, o, () -> o.filePart(0, 0, -1));
        Check.refused("filePart not there", ELEMENT, o, () -> o.filePart(0, 0, 0));
        Check.refused("filePart not there", ELEMENT, o, () -> o.filePart(2, 15, 3));
    }

    private static void figures() {
        Orbithouse o = new Orbithouse();
        Check.refused("meanBattery", ArithmeticException.class, o, o::meanBattery);
        Check.same("checksum at first", o.checksum(), checksum(o));
        o.tell(true, 31, 0, 0, 6, 0, 0, 0);
        o.tell(false, 99, 0, 0, 6, 0, 0, 0);
        o.tell(false, 98, 0, 0, 6, 0, 0, 0);
        o.flip(1, 63, 12);
        o.breakUnit(4, 'd');
        long sum = 0;
        for (int i = 1; i <= 10; i++) {
            o.step(1);
            sum += o.world('b');
            Check.near("mean", o.meanBattery(), (double) sum / i);
            Check.same("checksum", o.checksum(), checksum(o));
        }
        o.drain(10);
        Check.near("mean of ends of ticks alone", o.meanBattery(), (double) sum / 10);
        Check.near("share", o.onShare(), 8f / 15f);
        Orbithouse p = Check.near();
        Check.doneAs(p, 0, 1, 14, 1);
        Check.near("share", p.onShare(), 9f / 15f);
    }

    static long checksum(Orbithouse o) {
        long h = 7;
        for (int i = 0; i < 24; i++) {
            h = 31 * h + o.parameter(i);
        }
        int[] some = {o.receiver('n'), o.receiver('t'), o.ground('n'), o.ground('t'), o.ground('r'), o.world('a'),
            o.world('r')};
        for (int number : some) {
            h = 31 * h + number;
        }
        for (int i = 0; i < 15; i++) {
            h = 31 * h + o.unit(i, 'o');
        }
        for (int i = 0; i < 256; i++) {
            h = 31 * h + o.bits(i / 64, i % 64);
        }
        h = 31 * h + o.world('n');
        for (int i = 0; i < o.ground('o'); i++) {
            h = 31 * h + o.endOf(i);
        }
        return h;
    }
}
