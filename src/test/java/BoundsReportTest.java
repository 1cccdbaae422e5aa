/** The boundaries of parts 5, 7 and 8: rows of 12, 40, 24 and 200 reports, structures, housekeeping, monitors. */
public final class BoundsReportTest {
    private static final int LOW = Integer.MIN_VALUE;
    private static final int HIGH = Integer.MAX_VALUE;
    private static final Class<?> INDEX = IndexOutOfBoundsException.class;

    public static void main(String[] args) {
        twelveAtOnce();
        fortyPlayed();
        playedFromTo();
        playedRowIsEmptied();
        atOnceAheadOfPlayed();
        ringOfTwentyFour();
        boundedTwentyFour();
        goneUpTo();
        classesOfStores();
        resetEmptiesRows();
        twoHundredKept();
        keptAnew();
        valuesOfReports();
        structuresOfSix();
        ticksOfStructures();
        limitsOfMonitors();
        bitsOfMonitors();
        changesOfMonitors();
        timesOfMonitors();
        monitorsOfSix();
        transmitters();
        Check.finish("BoundsReportTest");
    }

    /** Reports are made, and none comes down. */
    private static Orbithouse mute() {
        Orbithouse o = Check.near();
        Check.doneAs(o, 0, 41, 1, 0);
        o.breakUnit(2, 'd');
        return o;
    }

    /** "If that has fewer than 12, otherwise DROPPED is 1 more." */
    private static void twelveAtOnce() {
        Orbithouse o = mute();
        Check.same("the end of 41 came down", o.parameter(16), 0);
        for (int i = 1; i <= 12; i++) {
            Check.doneAs(o, 0, 0);
            Check.same("at once", o.parameter(16), i);
            Check.same("DROPPED", o.world('d'), 0);
            Check.same("the newest", o.rowAt(false, i - 1), i);
        }
        Check.refused("no 13th", INDEX, o, () -> o.rowAt(false, 12));
        for (int i = 1; i <= 3; i++) {
            Check.doneAs(o, 0, 0);
            Check.same("at once", o.parameter(16), 12);
            Check.same("DROPPED", o.world('d'), i);
            Check.same("the newest that it has", o.rowAt(false, 11), 12);
            Check.same("its store has it", o.storeAt(0, o.store(0, 'n') - 1), 12 + i);
        }
        Check.same("sound", o.isSound(), true);
        // Room for one: the first report of a tick finds it, the second one of that tick does not.
        Check.together(o, new int[] {77});
        o.breakUnit(2, 'g');
        o.step(1);
        Check.same("both were dropped ahead of the frame", o.world('d'), 5);
        Check.same("one went", o.parameter(16), 11);
        o.breakUnit(2, 'd');
        Check.doneAs(o, 1, 77);
        Check.same("one found room, one did not", o.world('d'), 6);
        Check.same("at once", o.parameter(16), 12);
        Check.same("the end, without its event", o.rowAt(false, 11), o.world('n') - 2);
        Check.same("the first one", o.rowAt(false, 0), 2);
    }

    /** 27: "as long as that has fewer than 40"; the row goes round as it is taken from. */
    private static void fortyPlayed() {
        Orbithouse o = mute();
        for (int i = 0; i < 30; i++) {
            Check.doneAs(o, 0, 0);
        }
        // The store has the NUMBERS from 7 to 30.
        Check.doneAs(o, 0, 27, 0, 7, 30);
        Check.same("24", o.parameter(17), 24);
        Check.doneAs(o, 0, 27, 0, 10, 23);
        Check.same("38", o.parameter(17), 38);
        Check.doneAs(o, 0, 27, 0, 10, 10);
        Check.same("39", o.parameter(17), 39);
        Check.doneAs(o, 0, 27, 0, 20, 25);
        Check.same("40", o.parameter(17), 40);
        Check.same("the first of them alone", o.rowAt(true, 39), 20);
        Check.same("ahead of it", o.rowAt(true, 38), 10);
        Check.same("ahead of that", o.rowAt(true, 37), 23);
        Check.same("the first one", o.rowAt(true, 0), 7);
        Check.refused("no 41st", INDEX, o, () -> o.rowAt(true, 40));
        Check.doneAs(o, 0, 27, 0, 20, 25);
        Check.same("40", o.parameter(17), 40);
        Check.same("sound", o.isSound(), true);
        // Twelve told at once go first, then one a tick of those.
        o.breakUnit(2, 'g');
        o.step(12);
        Check.same("40 yet", o.parameter(17), 40);
        o.step(1);
        Check.same("39", o.parameter(17), 39);
        o.breakUnit(2, 'd');
        o.step(1);
        // The end of 27 itself stays behind; 21 is in the store still.
        int oldest = o.storeAt(0, 0);
        Check.doneAs(o, 0, 27, 0, oldest, oldest + 3);
        Check.same("40", o.parameter(17), 40);
        Check.same("at its end", o.rowAt(true, 39), oldest);
        Check.same("the row moved on", o.rowAt(true, 0), 8);
        Check.same("the others stay", o.rowAt(true, 38), 20);
    }

    /** "With numbers from y to z", both of them with it. */
    private static void playedFromTo() {
        int[][] cases = {{3, 3, 1}, {3, 4, 2}, {4, 3, 0}, {LOW, HIGH, 7}, {HIGH, LOW, 0}, {LOW, 0, 1}, {LOW, -1, 0},
            {6, HIGH, 1}, {7, HIGH, 0}, {0, 6, 7}, {-5, 2, 3}, {5, 99, 2}};
        for (int[] c : cases) {
            Orbithouse o = mute();
            for (int i = 0; i < 6; i++) {
                Check.doneAs(o, 0, 0);
            }
            Check.doneAs(o, 0, 27, 0, c[0], c[1]);
            Check.same("from " + c[0] + " to " + c[1], o.parameter(17), c[2]);
            for (int i = 0; i < c[2]; i++) {
                Check.same("in their order", o.rowAt(true, i), Math.max(0, c[0]) + i);
            }
            Check.same("the store keeps them", o.store(0, 'n'), 8);
            Check.doneAs(o, 0, 27, 1, c[0], c[1]);
            Check.same("of an empty store none", o.parameter(17), c[2]);
        }
    }

    private static void playedRowIsEmptied() {
        Orbithouse o = mute();
        Check.doneAs(o, 0, 28);
        Check.same("empty", o.parameter(17), 0);
        Check.doneAs(o, 0, 27, 0, 0, 9);
        Check.same("two", o.parameter(17), 2);
        Check.doneAs(o, 0, 28, 5, 5, 5, 5, 5, 5);
        Check.same("empty", o.parameter(17), 0);
        Check.refused("none", INDEX, o, () -> o.rowAt(true, 0));
        Check.doneAs(o, 0, 27, 0, 1, 1);
        Check.same("anew", o.rowAt(true, 0), 1);
    }

    /** "Without one, in a PASS, the first one of the row that is played back; else none." */
    private static void atOnceAheadOfPlayed() {
        Orbithouse o = Check.near();
        Check.doneAs(o, 0, 0);
        Check.doneAs(o, 0, 0);
        Check.tellFast(o, 27, 0, 0, 1);
        o.step(2);
        // Its own end went with the frame of this tick.
        Check.same("at once", o.parameter(16), 0);
        Check.same("played", o.parameter(17), 2);
        o.sky(96, 0);
        o.step(3);
        Check.same("no PASS", o.parameter(17), 2);
        o.sky(96, 48);
        o.step(1);
        Check.same("a PASS", o.parameter(17), 1);
        // By the last tick of a PASS, and the first one without.
        Orbithouse p = Check.near();
        Check.doneAs(p, 0, 0);
        Check.tellFast(p, 27, 0, 0, 0);
        p.step(2);
        p.sky(96, 6);
        Check.same("played", p.parameter(17), 1);
        p.step(1);
        Check.same("T 5 modulo 48 is less than 6", p.parameter(17), 0);
        Orbithouse q = Check.near();
        Check.doneAs(q, 0, 0);
        Check.tellFast(q, 27, 0, 0, 0);
        q.step(2);
        q.sky(96, 5);
        q.step(1);
        Check.same("T 5 modulo 48 is not less than 5", q.parameter(17), 1);
    }

    /** "A store has 24 reports: behind that the first one goes, if it is a ring." */
    private static void ringOfTwentyFour() {
        Orbithouse o = Check.near();
        for (int i = 1; i <= 60; i++) {
            Check.doneAs(o, 0, 0);
            int size = Math.min(24, i);
            Check.same("size", o.store(0, 'n'), size);
            Check.same("size as parameter", o.parameter(18), size);
            for (int j = 0; j < size; j++) {
                Check.same("report", o.storeAt(0, j), i - size + j);
            }
        }
        Check.refused("no 25th", INDEX, o, () -> o.storeAt(0, 24));
        Check.refused("below 0", INDEX, o, () -> o.storeAt(0, -1));
        Check.same("sound", o.isSound(), true);
    }

    /** "Otherwise the new one does not come", until there is room. */
    private static void boundedTwentyFour() {
        Orbithouse o = Check.near();
        Check.doneAs(o, 0, 26, 0, 0);
        for (int i = 2; i <= 24; i++) {
            Check.doneAs(o, 0, 0);
            Check.same("size", o.store(0, 'n'), i);
        }
        for (int i = 0; i < 3; i++) {
            Check.doneAs(o, 0, 0);
            Check.same("full", o.store(0, 'n'), 24);
            Check.same("the last one", o.storeAt(0, 23), 23);
        }
        Check.doneAs(o, 0, 29, 0, 0);
        Check.same("room for the end of 29", o.storeAt(0, 23), 27);
        Check.same("one is gone", o.storeAt(0, 0), 1);
        Check.doneAs(o, 0, 0);
        Check.same("full again", o.storeAt(0, 23), 27);
        Check.doneAs(o, 0, 26, 0, 1);
        Check.same("a ring: its own end comes", o.storeAt(0, 23), 29);
        Check.same("the first one goes", o.storeAt(0, 0), 2);
    }

    /** 29: "with numbers up to y are gone". */
    private static void goneUpTo() {
        int[][] cases = {{LOW, 7}, {-1, 7}, {0, 6}, {1, 5}, {5, 1}, {6, 0}, {7, 0}, {HIGH, 0}};
        for (int[] c : cases) {
            Orbithouse o = Check.near();
            for (int i = 0; i < 7; i++) {
                Check.doneAs(o, 0, 0);
            }
            Check.doneAs(o, 0, 29, 0, c[0]);
            Check.same("behind " + c[0], o.store(0, 'n'), c[1] + 1);
            for (int i = 0; i <= c[1]; i++) {
                Check.same("those that stay", o.storeAt(0, i), 7 - c[1] + i);
            }
        }
        // A full ring that went round.
        Orbithouse o = Check.near();
        for (int i = 0; i < 40; i++) {
            Check.doneAs(o, 0, 0);
        }
        Check.doneAs(o, 0, 29, 0, 15);
        Check.same("none was below", o.store(0, 'n'), 24);
        Check.doneAs(o, 0, 29, 0, 38);
        Check.same("39 to 41", o.store(0, 'n'), 3);
        Check.same("39", o.storeAt(0, 0), 39);
        Check.doneAs(o, 0, 29, 2, HIGH);
        Check.doneAs(o, 0, 29, 1, HIGH);
        Check.same("the others alone", o.store(0, 'n'), 5);
    }

    /** "25 store x takes reports of class y, 0 to 5". */
    private static void classesOfStores() {
        Orbithouse o = Check.near();
        int[] due = {3, 4, 56};
        for (int store = 0; store < 3; store++) {
            for (int sort = 0; sort < 6; sort++) {
                Check.doneAs(o, 0, 25, store, sort, 1);
                due[store] |= 1 << sort;
                Check.same("classes", o.store(store, 'c'), due[store]);
                Check.doneAs(o, 0, 25, store, sort, 1);
                Check.same("taken already", o.store(store, 'c'), due[store]);
            }
        }
        Check.same("all", o.store(2, 'c'), 63);
        for (int store = 2; store >= 0; store--) {
            for (int sort = 5; sort >= 0; sort--) {
                Check.doneAs(o, 0, 25, store, sort, 0);
                due[store] &= ~(1 << sort);
                Check.same("classes", o.store(store, 'c'), due[store]);
                Check.doneAs(o, 0, 25, store, sort, 0);
                Check.same("not taken already", o.store(store, 'c'), due[store]);
            }
        }
        int size = o.store(0, 'n') + o.store(1, 'n') + o.store(2, 'n');
        Check.doneAs(o, 1, 99);
        Check.same("none takes any", o.store(0, 'n') + o.store(1, 'n') + o.store(2, 'n'), size);
        // Each class goes to the store that takes it alone.
        for (int sort = 0; sort < 6; sort++) {
            Orbithouse p = Check.near();
            for (int i = 0; i < 6; i++) {
                Check.doneAs(p, 0, 25, i < 2 ? 0 : i == 2 ? 1 : 2, i, 0);
            }
            Check.doneAs(p, 0, 25, 1, sort, 1);
            Check.doneAs(p, 0, 29, 1, HIGH);
            int had = p.store(1, 'n');
            Check.doneAs(p, 0, 38, 0, 0);
            Check.doneAs(p, 0, 43, 0, 0);
            Check.doneAs(p, 0, 31, 0, 0, 1);
            Check.doneAs(p, 0, 19, 0, 1);
            Check.doneAs(p, 0, 20, 0, 1);
            Check.doneAs(p, 0, 20, 0, 0);
            Check.doneAs(p, 0, 14, 0, 0, 0);
            Check.doneAs(p, 0, 15, 0, 5);
            Check.doneAs(p, 1, 99);
            p.step(2);
            // Nine ends; event 0; the structure at two ticks; bytes; a part; the procedure.
            int[] count = {9, 1, 2, 1, 1, 1};
            Check.same("class " + sort, p.store(1, 'n') - had, count[sort]);
        }
    }

    /** "The rows of reports that are told at once and played back are empty"; stores are not. */
    private static void resetEmptiesRows() {
        for (int how = 0; how < 3; how++) {
            Orbithouse o = mute();
            Check.doneAs(o, 0, 27, 0, 0, 9);
            Check.same("at once", o.parameter(16), 1);
            Check.same("played", o.parameter(17), 1);
            if (how == 0) {
                Check.doneAs(o, 0, 37);
            } else if (how == 1) {
                o.hang();
                o.step(5);
            } else {
                o.sky(0, 48);
                o.drain(1000);
                o.step(1);
            }
            Check.same("a reset", o.parameter(12), 1);
            Check.same("at once", o.parameter(16), 0);
            Check.same("played", o.parameter(17), 0);
            Check.refused("none", INDEX, o, () -> o.rowAt(true, 0));
            Check.refused("none", INDEX, o, () -> o.rowAt(false, 0));
            Check.same("the store", o.store(0, 'n'), how == 0 ? 3 : 2);
            Check.same("NUMBERS go on", o.world('n'), how == 0 ? 3 : 2);
        }
    }

    /** "The latest 200 reports that came". */
    private static void twoHundredKept() {
        Orbithouse o = Check.near();
        Check.doneAs(o, 0, 19, 0, 0);
        Check.doneAs(o, 0, 20, 0, 1);
        // Two ends, and from T 4 on one report a tick, which comes a tick later.
        o.step(198);
        Check.same("T", o.parameter(0), 202);
        Check.same("199", o.ground('k'), 199);
        o.step(1);
        Check.same("200", o.ground('k'), 200);
        Check.same("the first one", o.kept(0, 'n'), 0);
        Check.same("the last one", o.kept(199, 'n'), 199);
        Check.refused("no 201st", INDEX, o, () -> o.kept(200, 'n'));
        o.step(1);
        Check.same("200", o.ground('k'), 200);
        Check.same("the first one went", o.kept(0, 'n'), 1);
        Check.same("the last one", o.kept(199, 'n'), 200);
        Check.same("0 is gone", o.hasKept(0), false);
        Check.same("1 is there", o.hasKept(1), true);
        Check.same("200 is there", o.hasKept(200), true);
        Check.same("201 is not", o.hasKept(201), false);
        Check.same("-1 is not", o.hasKept(-1), false);
        Check.same("nor the least", o.hasKept(LOW), false);
        Check.same("nor the most", o.hasKept(HIGH), false);
        for (int i = 0; i < 210; i++) {
            o.step(1);
            Check.same("200", o.ground('k'), 200);
            for (int j = 0; j < 200; j += 33) {
                Check.same("as they came", o.kept(j, 'n'), i + 2 + j);
            }
        }
        Check.same("sound", o.isSound(), true);
        Check.same("true", o.isTrue(), true);
    }

    /** "One whose NUMBER it keeps comes to nothing", and one that went from it comes anew, at the end. */
    private static void keptAnew() {
        Orbithouse o = Check.near();
        // Store 1 keeps the first report of class 2; structure 0 fills what the ground keeps.
        Check.doneAs(o, 0, 26, 1, 0);
        Check.doneAs(o, 0, 19, 0, 0);
        Check.doneAs(o, 0, 20, 0, 1);
        o.step(190);
        int first = o.storeAt(1, 0);
        Check.same("kept", o.hasKept(first), true);
        Check.doneAs(o, 0, 20, 0, 0);
        o.step(5);
        int size = o.ground('k');
        Check.doneAs(o, 0, 27, 1, first, first);
        o.step(4);
        Check.same("played", o.parameter(17), 0);
        Check.same("nothing but its end", o.ground('k'), size + 1);
        Check.same("the last is an end", o.kept(size, 'c'), 0);
        Check.doneAs(o, 0, 20, 0, 1);
        o.step(30);
        Check.same("gone by now", o.hasKept(first), false);
        Check.doneAs(o, 0, 20, 0, 0);
        Check.doneAs(o, 0, 27, 1, first, first);
        o.step(4);
        Check.same("200", o.ground('k'), 200);
        Check.same("at the end", o.kept(199, 'n'), first);
        Check.same("as it was made", o.kept(199, 't'), o.keptValue(199, 0));
        Check.doneAs(o, 0, 27, 1, first, first);
        o.step(4);
        Check.same("kept once", o.kept(198, 'n'), first);
        Check.same("behind it the end of 27", o.kept(199, 'c'), 0);
    }

    /** "0 to 6 values". */
    private static void valuesOfReports() {
        for (int count = 1; count <= 6; count++) {
            Orbithouse o = Check.near();
            Check.doneAs(o, 0, 31, 2, 0, count);
            o.step(3);
            Check.same("values", o.kept(0, 'm'), count);
            int[] due = {40, 25, 3, 50, 20, 4};
            for (int i = 0; i < count; i++) {
                Check.same("value", o.keptValue(0, i), due[i]);
            }
            for (int bad : new int[] {LOW, -1, count, 6, HIGH}) {
                Check.refused("no value", java.util.NoSuchElementException.class, o, () -> o.keptValue(0, bad));
                Check.refused("no report and no value", INDEX, o, () -> o.keptValue(2, bad));
            }
            Check.refused("an end has none", java.util.NoSuchElementException.class, o, () -> o.keptValue(1, 0));
            Check.same("an end has none", o.kept(1, 'm'), 0);
        }
    }

    /** 19: "fails if it would have 7". */
    private static void structuresOfSix() {
        Orbithouse o = Check.near();
        for (int structure = 0; structure < 3; structure++) {
            int at = structure;
            Check.refused("none", INDEX, o, () -> o.structureAt(at, 0));
            for (int i = 0; i < 6; i++) {
                Check.same("size", o.structure(structure, 'n'), i);
                Check.doneAs(o, 0, 19, structure, 4 * i + structure);
            }
            Check.doneAs(o, 4, 19, structure, 0);
            Check.doneAs(o, 4, 19, structure, 23);
            Check.same("six", o.structure(structure, 'n'), 6);
            for (int i = 0; i < 6; i++) {
                Check.same("parameter", o.structureAt(structure, i), 4 * i + structure);
            }
            Check.refused("no seventh", INDEX, o, () -> o.structureAt(at, 6));
            Check.refused("below 0", INDEX, o, () -> o.structureAt(at, -1));
        }
        Check.same("sound", o.isSound(), true);
        Check.doneAs(o, 0, 19, 1, -1);
        Check.same("none", o.structure(1, 'n'), 0);
        Check.doneAs(o, 0, 19, 1, -1);
        Check.same("the others stay", o.structure(0, 'n') + o.structure(2, 'n'), 12);
        Check.doneAs(o, 0, 19, 1, 0);
        Check.doneAs(o, 0, 19, 1, 23);
        Check.same("two", o.structure(1, 'n'), 2);
        Check.same("the first one", o.structureAt(1, 0), 0);
        Check.same("the last one", o.structureAt(1, 1), 23);
        // The same one may be there more than once; all six are told.
        Check.doneAs(o, 0, 19, 1, 23);
        Check.doneAs(o, 0, 19, 1, 22);
        Check.doneAs(o, 0, 19, 1, 22);
        Check.doneAs(o, 0, 19, 1, 1);
        Check.doneAs(o, 0, 20, 1, 1);
        int tick = o.parameter(0);
        o.step(2);
        Check.report("six values", o, 2, 1, 6, o.kept(Check.latest(o, 2, 1), 't'), 1, 1, 2, 2, 1);
        Check.same("its tick", o.kept(Check.latest(o, 2, 1), 't') >= tick, true);
    }

    /** "Whose number of ticks divides T": 1, 2, 99, 100, and 0 for none. */
    private static void ticksOfStructures() {
        for (int every : new int[] {1, 2, 3, 99, 100}) {
            Orbithouse o = Check.near();
            Check.doneAs(o, 0, 19, 2, 0);
            Check.doneAs(o, 0, 20, 2, every);
            Check.same("ticks", o.structure(2, 'i'), every);
            int made = o.world('n');
            for (int t = 5; t <= 205; t++) {
                o.step(1);
                Check.same("made at " + t, o.world('n') - made, t / every - 4 / every);
            }
            Check.doneAs(o, 0, 20, 2, 0);
            Check.same("not told", o.structure(2, 'i'), 0);
            made = o.world('n');
            o.step(205);
            Check.same("none", o.world('n'), made);
        }
        // It is told in the very tick of its command, if that is one.
        Orbithouse o = Check.near();
        Check.doneAs(o, 0, 19, 0, 0);
        int made = o.world('n');
        Check.doneAs(o, 0, 20, 0, 4);
        Check.same("T", o.parameter(0), 4);
        Check.same("its end and its report", o.world('n'), made + 2);
        // Without parameters none.
        Check.doneAs(o, 0, 19, 0, -1);
        made = o.world('n');
        o.step(20);
        Check.same("none", o.world('n'), made);
    }

    private static void monitor(Orbithouse o, int kind, int parameter, int z, int u, int v) {
        Check.doneAs(o, 0, kind, 0, parameter, z, u, v, 12);
        Check.doneAs(o, 0, 24, 0, 1);
    }

    /** "Bad if the parameter is below z or above u": parameter 22 is 2. */
    private static void limitsOfMonitors() {
        int[][] cases = {{2, 2, 0}, {1, 3, 0}, {3, 9, 1}, {-9, 1, 1}, {LOW, HIGH, 0}, {HIGH, LOW, 1}, {2, HIGH, 0},
            {LOW, 2, 0}, {3, HIGH, 1}, {LOW, 1, 1}, {3, 1, 1}, {2, 1, 1}, {3, 2, 1}};
        for (int[] c : cases) {
            Orbithouse o = Check.near();
            monitor(o, 21, 22, c[0], c[1], 2);
            o.step(1);
            Check.same("from " + c[0] + " to " + c[1], o.monitor(0, 'c'), c[2]);
            o.step(3);
            Check.same("events", Check.count(o, 1, 12), c[2]);
            if (c[2] == 1) {
                Check.report("with what it is", o, 1, 12, 2);
            }
        }
    }

    /** "Bad if the bits of the parameter in the mask are not the value": 2, and -1 as a board that is stuck. */
    private static void bitsOfMonitors() {
        int[][] cases = {{2, 2, 0}, {2, 0, 1}, {3, 2, 0}, {3, 3, 1}, {1, 0, 0}, {1, 1, 1}, {0, 0, 0}, {0, 1, 1},
            {-1, 2, 0}, {-1, 3, 1}, {LOW, 0, 0}, {LOW, LOW, 1}, {HIGH, 2, 0}, {4, 4, 1}, {2, 6, 1}, {6, 2, 0}};
        for (int[] c : cases) {
            Orbithouse o = Check.near();
            monitor(o, 22, 22, c[0], c[1], 1);
            o.step(1);
            Check.same("mask " + c[0] + ", value " + c[1], o.monitor(0, 'c'), c[2]);
        }
        // A number below 0: the warmth, brought to -1 and less.
        Orbithouse o = Check.near();
        Check.doneAs(o, 0, 30, 0, 6, 0);
        o.sky(0, 48);
        o.step(44);
        Check.same("warmth", o.world('w'), -1);
        o.sky(96, 48);
        monitor(o, 22, 3, LOW, LOW, 9);
        o.step(1);
        Check.same("warmth", o.world('w'), 0);
        Check.same("0 has not that bit", o.monitor(0, 'c'), 1);
        Orbithouse p = Check.near();
        Check.doneAs(p, 0, 30, 0, 6, 0);
        p.sky(0, 48);
        p.step(48);
        monitor(p, 22, 3, -1, -3, 9);
        p.step(1);
        Check.same("warmth", p.world('w'), -3);
        Check.same("all bits of it", p.monitor(0, 'c'), 0);
    }

    /** "The difference is more than z either way": by the battery, which drain() makes as it is to be. */
    private static void changesOfMonitors() {
        int[][] cases = {{0, 0, 0}, {0, 1, 1}, {0, -1, 1}, {20, 20, 0}, {20, 21, 1}, {20, -20, 0}, {20, -21, 1},
            {HIGH, -400, 0}, {399, -400, 1}, {400, -400, 0}, {1, 2, 1}, {1, 1, 0}};
        for (int[] c : cases) {
            Orbithouse o = Check.near();
            o.drain(300);
            monitor(o, 23, 2, c[0], 0, 1);
            o.step(1);
            Check.same("no value ahead", o.monitor(0, 'c'), 0);
            int value = o.world('b');
            // In SUN the battery grows by some 13 a tick; two ticks are drained to what is due.
            change(o, c[1]);
            Check.same("the change", o.world('b') - value, c[1]);
            Check.same("at most " + c[0] + ", by " + c[1], o.monitor(0, 'c'), c[2]);
        }
    }

    /** Lets one tick go by behind which the battery is so much more; a hanging board charges, and looks at nothing. */
    private static void change(Orbithouse o, int more) {
        int start = o.world('b');
        if (more > 5) {
            o.hang();
            o.step(9);
            Check.same("runs", o.board(), 'r');
        }
        int angle = Math.floorMod(o.world('a') + o.world('r') + 180, 360) - 180;
        int gain = 30 - Math.abs(angle) / 6 - 14;
        o.drain(o.world('b') + gain - start - more);
        o.step(1);
    }

    /** "V times, 1 to 9", "as it becomes v". */
    private static void timesOfMonitors() {
        for (int times = 1; times <= 9; times++) {
            Orbithouse o = Check.near();
            monitor(o, 21, 22, 5, 9, times);
            int made = o.world('n');
            for (int i = 1; i <= 20; i++) {
                o.step(1);
                Check.same("count", o.monitor(0, 'c'), i);
                Check.same("events of " + times + " at " + i, o.world('n') - made, i >= times ? 1 : 0);
            }
        }
        // As soon as it is not bad, it counts anew: of T modulo 4 three are bad.
        for (int times = 3; times <= 4; times++) {
            Orbithouse o = Check.near();
            monitor(o, 22, 0, 3, 0, times);
            int made = o.world('n');
            Check.same("T", o.parameter(0), 4);
            o.step(40);
            Check.same("events", o.world('n') - made, times == 3 ? 10 : 0);
        }
    }

    private static void monitorsOfSix() {
        Orbithouse o = Check.near();
        for (int i = 0; i < 6; i++) {
            Check.doneAs(o, 4, 24, i, 1);
            Check.doneAs(o, 0, 21 + i % 3, i, 23 - i, 9, 9, 9, 15);
            Check.same("kind", o.monitor(i, 'k'), 1 + i % 3);
            Check.same("parameter", o.monitor(i, 'p'), 23 - i);
            Check.same("off", o.monitor(i, 'o'), 0);
        }
        for (int i = 0; i < 6; i++) {
            Check.doneAs(o, 0, 24, i, 1);
            for (int j = 0; j < 6; j++) {
                Check.same("on", o.monitor(j, 'o'), j <= i ? 1 : 0);
            }
        }
        Check.doneAs(o, 0, 24, 5, 0);
        Check.same("off", o.monitor(5, 'o'), 0);
        Check.doneAs(o, 0, 24, 5, 0);
        // By numbers: all six tell in one tick.
        Orbithouse p = Check.near();
        for (int i = 5; i >= 0; i--) {
            Check.doneAs(p, 0, 21, i, 0, 0, 39, 1, i + 10);
            Check.doneAs(p, 0, 24, i, 1);
        }
        p.step(39 - p.parameter(0));
        int made = p.world('n');
        p.step(1);
        Check.same("six", p.world('n'), made + 6);
        p.step(8);
        for (int i = 0; i < 6; i++) {
            int at = Check.latest(p, 1, i + 10);
            Check.same("by numbers", p.kept(at, 'n'), made + i);
            Check.same("with T", p.kept(at, 'b'), 40);
        }
    }

    /** "If unit 2 or 3 is on and not dead." */
    private static void transmitters() {
        for (int how = 0; how < 9; how++) {
            Orbithouse o = Check.near();
            Check.doneAs(o, 0, 41, 1, 0);
            boolean speaks = false;
            for (int unit = 2; unit < 4; unit++) {
                int state = unit == 2 ? how % 3 : how / 3;
                Check.doneAs(o, 0, 1, unit, state == 0 ? 0 : 1);
                o.breakUnit(unit, state == 1 ? 'd' : 'g');
                speaks |= state == 2;
            }
            o.step(3);
            int came = o.ground('d');
            o.step(10);
            Check.same("frames " + how, o.ground('d') - came, speaks ? 10 : 0);
        }
    }
}
