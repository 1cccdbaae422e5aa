import java.util.ArrayList;
import java.util.List;

/** What all tests use: checks that count, a satellite that is easily commanded, and a look at all that the face tells. */
final class Check {
    interface Call {
        void run();
    }

    private static int wrong = 0;

    private Check() {
    }

    static void same(String what, long got, long want) {
        if (got != want) {
            wrong++;
            System.out.println(what + ": answered " + got + ", due is " + want);
        }
    }

    static void same(String what, boolean got, boolean want) {
        same(what, got ? 1 : 0, want ? 1 : 0);
    }

    static void near(String what, double got, double want) {
        if (got != want) {
            wrong++;
            System.out.println(what + ": answered " + got + ", due is " + want);
        }
    }

    /** A call that throws exactly this, and changes nothing. */
    static void refused(String what, Class<?> due, Orbithouse o, Call call) {
        List<Long> before = look(o);
        Class<?> thrown = null;
        try {
            call.run();
        } catch (RuntimeException e) {
            thrown = e.getClass();
        }
        if (thrown != due) {
            wrong++;
            System.out.println(what + ": threw " + thrown + ", due is " + due);
        }
        if (!before.equals(look(o))) {
            wrong++;
            System.out.println(what + ": changed something");
        }
    }

    static void finish(String name) {
        System.out.println(name + ": " + (wrong == 0 ? "all as due" : wrong + " not as due"));
        if (wrong != 0) {
            System.exit(1);
        }
    }

    /** Always in SUN and in a PASS, links of one tick: what is told fast at T is done at T and 2. */
    static Orbithouse near() {
        Orbithouse o = new Orbithouse();
        o.sky(96, 48);
        o.link(true, 1, 0, 0, 0, 0);
        o.link(false, 1, 0, 0, 0, 0);
        return o;
    }

    /** Has a command done, and answers its end. */
    static int done(Orbithouse o, int kind, int... numbers) {
        int[] n = java.util.Arrays.copyOf(numbers, 6);
        int order = o.tell(true, kind, n[0], n[1], n[2], n[3], n[4], n[5]);
        o.step(2);
        return o.endOf(order);
    }

    static void doneAs(Orbithouse o, int end, int kind, int... numbers) {
        same("end of " + kind + java.util.Arrays.toString(numbers), done(o, kind, numbers), end);
    }

    static int tellFast(Orbithouse o, int kind, int... numbers) {
        int[] n = java.util.Arrays.copyOf(numbers, 6);
        return o.tell(true, kind, n[0], n[1], n[2], n[3], n[4], n[5]);
    }

    static int tellInOrder(Orbithouse o, int kind, int... numbers) {
        int[] n = java.util.Arrays.copyOf(numbers, 6);
        return o.tell(false, kind, n[0], n[1], n[2], n[3], n[4], n[5]);
    }

    /**
     * Sends fast commands, each a KIND and its numbers, and what is in order and waits behind them, so that all of
     * them arrive together in the next tick; answers the ORDERS of the fast ones.
     */
    static int[] together(Orbithouse o, int[]... commands) {
        int[] orders = new int[commands.length];
        for (int i = 0; i < commands.length; i++) {
            orders[i] = tellFast(o, commands[i][0], java.util.Arrays.copyOfRange(commands[i], 1, commands[i].length));
        }
        int frames = commands.length + o.ground('w');
        same("no more than nine arrive together", frames <= 9, true);
        for (int i = 0; i < frames; i++) {
            o.link(true, frames - i, 0, 0, 0, 0);
            o.step(1);
        }
        o.link(true, 1, 0, 0, 0, 0);
        return orders;
    }

    /** So many ticks: none, or more than one call lets go by. */
    static void go(Orbithouse o, int ticks) {
        for (int left = ticks; left > 0; left -= 300) {
            o.step(Math.min(left, 300));
        }
    }

    /** So many times the same command. */
    static int[][] times(int count, int... command) {
        int[][] all = new int[count][];
        java.util.Arrays.fill(all, command);
        return all;
    }

    interface Maker {
        Orbithouse make();
    }

    /**
     * A command that is not done leaves all on board as one that there is not: the same reports are made, with
     * another code and KIND in them alone.
     */
    static void noEffect(String what, int end, Maker maker, int kind, int... numbers) {
        Orbithouse o = maker.make();
        Orbithouse twin = maker.make();
        doneAs(o, end, kind, numbers);
        doneAs(twin, 1, 44);
        same(what + ", KIND " + kind + java.util.Arrays.toString(numbers) + " changes nothing",
                effects(o).equals(effects(twin)), true);
    }

    /** What a command can change on board, without what its reports tell. */
    static List<Long> effects(Orbithouse o) {
        List<Long> all = new ArrayList<>();
        lookAtBoard(o, all);
        lookAtRows(o, all);
        lookAtMemory(o, all);
        for (char c : "bwarspnd".toCharArray()) {
            all.add((long) o.world(c));
        }
        for (int i = 0; i < 24; i++) {
            all.add((long) o.parameter(i));
        }
        return all;
    }

    interface Ask {
        long of(char what);
    }

    /** Of all signs those alone are of a meaning that are told; the others are refused, and nothing changes. */
    static void only(String name, String meant, Orbithouse o, Ask ask) {
        List<Long> before = look(o);
        for (int c = 0; c <= 0xFFFF; c++) {
            Class<?> thrown = null;
            try {
                ask.of((char) c);
            } catch (RuntimeException e) {
                thrown = e.getClass();
            }
            Class<?> due = meant.indexOf(c) >= 0 ? null : IllegalArgumentException.class;
            if (thrown != due) {
                wrong++;
                System.out.println(name + " of the sign " + c + ": threw " + thrown + ", due is " + due);
            }
        }
        same(name + " changes nothing", before.equals(look(o)), true);
    }

    /** z as it is behind a DRAW. */
    static int nextZ(int z) {
        return (int) ((25173L * z + 13849) % 65536);
    }

    /** A z from which the DRAWS of these numbers are as due; where due is -1, any is. */
    static int seedFor(int[] numbers, int[] due) {
        for (int first = 0; first < 65536; first++) {
            int z = first;
            boolean isFit = true;
            for (int i = 0; i < numbers.length && isFit; i++) {
                z = nextZ(z);
                isFit = due[i] < 0 || z / 16 % numbers[i] == due[i];
            }
            if (isFit) {
                return first;
            }
        }
        same("there is such a z", false, true);
        return 0;
    }

    /** z behind so many DRAWS. */
    static int zBehind(int z, int draws) {
        for (int i = 0; i < draws; i++) {
            z = nextZ(z);
        }
        return z;
    }

    /** The index of the latest report that the ground keeps of a class with a; -1 without one. */
    static int latest(Orbithouse o, int sort, int a) {
        for (int i = o.ground('k') - 1; i >= 0; i--) {
            if (o.kept(i, 'c') == sort && o.kept(i, 'a') == a) {
                return i;
            }
        }
        return -1;
    }

    static int count(Orbithouse o, int sort, int a) {
        int count = 0;
        for (int i = 0; i < o.ground('k'); i++) {
            count += o.kept(i, 'c') == sort && o.kept(i, 'a') == a ? 1 : 0;
        }
        return count;
    }

    static void report(String what, Orbithouse o, int sort, int a, int b, int... values) {
        int at = latest(o, sort, a);
        same(what + ": is there", at >= 0, true);
        if (at < 0) {
            return;
        }
        same(what + ": b", o.kept(at, 'b'), b);
        same(what + ": how many values", o.kept(at, 'm'), values.length);
        for (int i = 0; i < values.length && i < o.kept(at, 'm'); i++) {
            same(what + ": value " + i, o.keptValue(at, i), values[i]);
        }
    }

    /** All that can be seen of the object. */
    static List<Long> look(Orbithouse o) {
        List<Long> all = new ArrayList<>();
        lookAtGround(o, all);
        lookAtBoard(o, all);
        lookAtRows(o, all);
        lookAtMemory(o, all);
        for (char c : "bwarspnd".toCharArray()) {
            all.add((long) o.world(c));
        }
        all.add(o.checksum());
        return all;
    }

    private static void lookAtGround(Orbithouse o, List<Long> all) {
        all.add((long) o.state());
        for (char c : "owfsmntrcudbk".toCharArray()) {
            all.add((long) o.ground(c));
        }
        for (int i = 0; i < o.ground('s'); i++) {
            for (char c : "nom".toCharArray()) {
                all.add((long) o.sentAt(i, c));
            }
        }
        for (int i = 0; i < o.ground('k'); i++) {
            for (char c : "ntcabm".toCharArray()) {
                all.add((long) o.kept(i, c));
            }
            for (int j = 0; j < o.kept(i, 'm'); j++) {
                all.add((long) o.keptValue(i, j));
            }
        }
    }

    private static void lookAtBoard(Orbithouse o, List<Long> all) {
        all.add((long) o.board());
        for (char c : "ntlwa".toCharArray()) {
            all.add((long) o.receiver(c));
        }
        for (int i = 0; i < o.parameter(6); i++) {
            for (char c : "kofxyzuvw".toCharArray()) {
                all.add((long) o.queueAt(i, c));
            }
        }
        for (int i = 0; i < o.parameter(7); i++) {
            for (char c : "tgk".toCharArray()) {
                all.add((long) o.entryAt(i, c));
            }
        }
        for (char c : "sa0123lmn".toCharArray()) {
            all.add(o.isOn(c) ? 1L : 0L);
        }
        for (int i = 0; i < 12; i++) {
            for (int j = 0; j < 7; j++) {
                all.add((long) o.template(i, j));
            }
        }
        for (int i = 0; i < 4; i++) {
            for (char c : "srntle".toCharArray()) {
                all.add((long) o.procedure(i, c));
            }
            for (int j = 0; j < 4; j++) {
                all.add((long) o.register(i, j));
            }
            for (int j = 0; j < 4 * o.procedure(i, 'n'); j++) {
                all.add((long) o.rowOf(i, j / 4, j % 4));
            }
        }
        for (int i = 0; i < 15; i++) {
            for (char c : "obmst".toCharArray()) {
                all.add((long) o.unit(i, c));
            }
        }
    }

    private static void lookAtRows(Orbithouse o, List<Long> all) {
        for (int i = 0; i < 3; i++) {
            all.add((long) o.structure(i, 'i'));
            for (int j = 0; j < o.structure(i, 'n'); j++) {
                all.add((long) o.structureAt(i, j));
            }
            all.add((long) o.store(i, 'r'));
            all.add((long) o.store(i, 'c'));
            for (int j = 0; j < o.store(i, 'n'); j++) {
                all.add((long) o.storeAt(i, j));
            }
        }
        for (int i = 0; i < 6; i++) {
            for (char c : "kpco".toCharArray()) {
                all.add((long) o.monitor(i, c));
            }
        }
        for (int i = 0; i < 16; i++) {
            all.add((long) o.event(i, 't'));
            all.add((long) o.event(i, 'a'));
        }
        for (int i = 0; i < o.parameter(16); i++) {
            all.add((long) o.rowAt(false, i));
        }
        for (int i = 0; i < o.parameter(17); i++) {
            all.add((long) o.rowAt(true, i));
        }
    }

    private static void lookAtMemory(Orbithouse o, List<Long> all) {
        for (int i = 0; i < 256; i++) {
            all.add((long) o.bits(i / 64, i % 64));
            all.add((long) o.byteAt(i / 64, i % 64));
        }
        for (int i = 2; i < 4; i++) {
            for (char c : "wbns".toCharArray()) {
                all.add((long) o.image(i, c));
            }
        }
        for (int i = 0; i < 3; i++) {
            all.add((long) o.file(i, 'w'));
            all.add((long) o.file(i, 'p'));
            for (int j = 0; j < 16; j++) {
                try {
                    for (int k = 0; k < 4; k++) {
                        all.add((long) o.filePart(i, j, k));
                    }
                } catch (java.util.NoSuchElementException e) {
                    all.add(Long.MIN_VALUE);
                }
            }
        }
    }
}
