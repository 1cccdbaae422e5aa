/** Parts 5, 7 and 8 with kinds 19 to 29: reports and their rows, stores, structures, monitors, and what comes down. */
public final class ReportTest {
    public static void main(String[] args) {
        structures();
        housekeeping();
        byLimits();
        byBits();
        byChange();
        monitorIsToldAnew();
        monitorActions();
        allParameters();
        rowAtOnceAndDropped();
        goneWithoutPass();
        withoutTransmitter();
        stores();
        bounded();
        erasing();
        playingBack();
        playedRowIsFull();
        groundKeepsTwoHundred();
        Check.finish("ReportTest");
    }

    private static void structures() {
        Orbithouse o = Check.near();
        for (int i = 0; i < 6; i++) {
            Check.doneAs(o, 0, 19, 1, 23 - i);
        }
        Check.doneAs(o, 4, 19, 1, 3);
        Check.same("six", o.structure(1, 'n'), 6);
        for (int i = 0; i < 6; i++) {
            Check.same("in their order", o.structureAt(1, i), 23 - i);
        }
        Check.same("another one", o.structure(0, 'n') + o.structure(2, 'n'), 0);
        Check.doneAs(o, 0, 20, 1, 100);
        Check.same("ticks", o.structure(1, 'i'), 100);
        Check.doneAs(o, 0, 20, 1, 0);
        Check.same("ticks", o.structure(1, 'i'), 0);
        Check.doneAs(o, 0, 19, 1, -1);
        Check.same("none", o.structure(1, 'n'), 0);
        Check.doneAs(o, 0, 19, 1, 0);
        Check.same("anew", o.structureAt(1, 0), 0);
    }

    private static void housekeeping() {
        Orbithouse o = Check.near();
        Check.doneAs(o, 0, 20, 2, 5);
        Check.doneAs(o, 0, 20, 0, 5);
        o.step(11);
        Check.same("without parameters nothing", Check.count(o, 2, 2) + Check.count(o, 2, 0), 0);
        Check.doneAs(o, 0, 19, 2, 0);
        Check.doneAs(o, 0, 19, 0, 0);
        Check.same("T", o.parameter(0), 19);
        o.step(1);
        Check.same("two of class 2", o.store(1, 'n'), 2);
        o.step(4);
        Check.report("structure 0", o, 2, 0, 1, 20);
        Check.report("structure 2", o, 2, 2, 1, 20);
        Check.same("by numbers", o.kept(Check.latest(o, 2, 0), 'n') + 1, o.kept(Check.latest(o, 2, 2), 'n'));
        o.step(4);
        Check.report("structure 0", o, 2, 0, 1, 25);
        Check.doneAs(o, 0, 20, 0, 0);
        o.step(10);
        // Off in T 30, ahead of housekeeping.
        Check.report("no more", o, 2, 0, 1, 25);
        Check.report("structure 2 goes on", o, 2, 2, 1, 35);
    }

    private static void byLimits() {
        Orbithouse o = Check.near();
        Check.doneAs(o, 4, 24, 0, 1);
        // T from 14 to 16 is good.
        Check.doneAs(o, 0, 21, 0, 0, 14, 16, 2, 12);
        for (int i = 0; i < 4; i++) {
            Check.same("told", o.monitor(0, "kpco".charAt(i)), new int[] {1, 0, 0, 0}[i]);
        }
        o.step(2);
        Check.same("off", o.monitor(0, 'c'), 0);
        Check.doneAs(o, 0, 24, 0, 1);
        Check.same("on", o.monitor(0, 'o'), 1);
        Check.same("T", o.parameter(0), 8);
        int[] counts = {1, 2, 3, 4, 5, 0, 0, 0, 1, 2, 3};
        for (int count : counts) {
            o.step(1);
            Check.same("count at " + o.parameter(0), o.monitor(0, 'c'), count);
        }
        o.step(2);
        Check.same("twice", Check.count(o, 1, 12), 2);
        Check.report("as it became 2", o, 1, 12, 18);
        Check.doneAs(o, 0, 24, 0, 0);
        Check.same("off", o.monitor(0, 'o'), 0);
        Check.same("count", o.monitor(0, 'c'), 0);
        o.step(5);
        Check.same("off", o.monitor(0, 'c'), 0);
    }

    private static void byBits() {
        Orbithouse o = Check.near();
        // Bad unless the last two bits of T are 01.
        Check.doneAs(o, 0, 22, 5, 0, 3, 1, 3, 13);
        Check.doneAs(o, 0, 24, 5, 1);
        Check.same("kind", o.monitor(5, 'k'), 2);
        int count = 0;
        for (int t = 5; t < 14; t++) {
            o.step(1);
            count = t % 4 == 1 ? 0 : count + 1;
            Check.same("count at " + t, o.monitor(5, 'c'), count);
        }
        o.step(3);
        Check.same("events", Check.count(o, 1, 13), 2);
        Check.report("event", o, 1, 13, 12);
        Check.same("monitor looks ahead of commands", o.kept(Check.latest(o, 1, 13), 't'), 12);
    }

    private static void byChange() {
        Orbithouse o = Check.near();
        // The battery grows; what drain() takes is a change of more than 20.
        Check.doneAs(o, 0, 23, 1, 2, 20, 0, 1, 14);
        Check.doneAs(o, 0, 24, 1, 1);
        Check.same("kind", o.monitor(1, 'k'), 3);
        o.drain(200);
        o.step(1);
        Check.same("no value ahead", o.monitor(1, 'c'), 0);
        o.step(1);
        Check.same("little", o.monitor(1, 'c'), 0);
        int before = o.world('b');
        o.step(1);
        int more = o.world('b') - before;
        o.drain(20 + more);
        o.step(1);
        Check.same("20 less", o.monitor(1, 'c'), 0);
        o.drain(21 + more);
        o.step(1);
        Check.same("21 less", o.monitor(1, 'c'), 1);
        int battery = o.world('b');
        o.step(1);
        Check.same("little again", o.monitor(1, 'c'), 0);
        o.step(3);
        Check.report("event", o, 1, 14, battery);
        // The value ahead stays while the board does not run.
        o.hang();
        o.drain(300);
        o.step(9);
        Check.same("runs", o.board(), 'r');
        Check.same("did not look yet", o.monitor(1, 'c'), 0);
        o.step(1);
        Check.same("changed", o.monitor(1, 'c'), 1);
    }

    private static void monitorIsToldAnew() {
        Orbithouse o = Check.near();
        Check.doneAs(o, 0, 21, 2, 1, 5, 5, 9, 12);
        Check.doneAs(o, 0, 24, 2, 1);
        o.step(3);
        Check.same("count", o.monitor(2, 'c'), 3);
        Check.doneAs(o, 0, 24, 2, 1);
        Check.same("count behind 24", o.monitor(2, 'c'), 0);
        Check.same("on", o.monitor(2, 'o'), 1);
        o.step(2);
        Check.doneAs(o, 0, 22, 2, 3, 0, 0, 9, 12);
        Check.same("count behind 22", o.monitor(2, 'c'), 0);
        Check.same("off behind 22", o.monitor(2, 'o'), 0);
        Check.same("parameter", o.monitor(2, 'p'), 3);
        // By change it has no value ahead behind 24, also if it was on.
        Check.doneAs(o, 0, 23, 2, 2, 50, 0, 1, 12);
        Check.doneAs(o, 0, 24, 2, 1);
        o.step(2);
        o.drain(100);
        int order = Check.tellFast(o, 24, 2, 1);
        o.step(1);
        Check.same("changed", o.monitor(2, 'c'), 1);
        o.step(1);
        Check.same("told", o.endOf(order), 0);
        o.drain(100);
        o.step(1);
        Check.same("no value ahead", o.monitor(2, 'c'), 0);
    }

    private static void monitorActions() {
        Orbithouse o = Check.near();
        Check.doneAs(o, 0, 12, 15, 0);
        Check.doneAs(o, 0, 13, 1);
        Check.doneAs(o, 0, 21, 3, 0, 0, 0, 1, 15);
        Check.doneAs(o, 0, 24, 3, 1);
        int made = o.world('n');
        o.step(1);
        // The event, and the end of its action in the same tick.
        Check.same("two reports", o.world('n'), made + 2);
    }

    private static void allParameters() {
        Orbithouse o = Check.near();
        Check.doneAs(o, 0, 14, 0, 0, 1, 90);
        Check.doneAs(o, 0, 15, 0, 90);
        Check.doneAs(o, 0, 6, 0, 999, 0);
        Check.doneAs(o, 0, 2, 14, 1);
        Check.doneAs(o, 0, 27, 0, 0, 2);
        int[] due = {10, 1, o.world('b'), o.world('w'), o.world('a'), o.world('r'), 0, 1, o.parameter(8), 1, 0, 0, 0,
            0, 0, 0, o.parameter(16), o.parameter(17), o.store(0, 'n'), o.store(1, 'n'), o.store(2, 'n'), 1, 2, 1};
        for (int i = 0; i < 24; i++) {
            if (i != 5) {
                Check.same("parameter " + i, o.parameter(i), due[i]);
            }
        }
        Check.same("units on", Math.round(o.onShare() * 15), o.parameter(8));
        o.step(3);
        for (int i = 0; i < 6; i++) {
            Check.doneAs(o, 0, 19, 0, 4 * i);
            Check.doneAs(o, 0, 19, 1, 4 * i + 3);
        }
        Check.doneAs(o, 0, 20, 0, 1);
        o.step(1);
        int[] values = new int[6];
        for (int i = 0; i < 6; i++) {
            values[i] = o.parameter(4 * i);
        }
        // As it was made the row told at once had one less, and it comes down with the next frame.
        o.step(1);
        int at = Check.latest(o, 2, 0);
        Check.same("values", o.kept(at, 'm'), 6);
        for (int i = 0; i < 6; i++) {
            if (i < 4) {
                Check.same("value " + i, o.keptValue(at, i), i == 0 ? o.kept(at, 't') : o.keptValue(at, i));
            }
        }
        Check.same("T", o.keptValue(at, 0), o.kept(at, 't'));
        Check.same("resets", o.keptValue(at, 3), 0);
    }

    private static void rowAtOnceAndDropped() {
        Orbithouse o = Check.near();
        o.sky(96, 48);
        o.breakUnit(2, 'd');
        Check.doneAs(o, 0, 41, 1, 0);
        for (int i = 0; i < 13; i++) {
            Check.doneAs(o, 0, 0);
        }
        Check.same("row", o.parameter(16), 12);
        Check.same("DROPPED", o.world('d'), 2);
        for (int i = 0; i < 12; i++) {
            Check.same("row", o.rowAt(false, i), i);
        }
        Check.refused("row", IndexOutOfBoundsException.class, o, () -> o.rowAt(false, 12));
        Check.same("stores have them all", o.store(0, 'n'), 14);
        o.breakUnit(2, 'g');
        o.step(1);
        Check.same("one a tick", o.parameter(16), 11);
        Check.same("the first one", o.rowAt(false, 0), 1);
        o.step(12);
        Check.same("kept", o.ground('k'), 12);
        Check.same("in their order", o.kept(11, 'n'), 11);
        Check.same("sound", o.isSound(), true);
    }

    private static void goneWithoutPass() {
        Orbithouse o = Check.near();
        Check.doneAs(o, 0, 27, 0, 0, 9);
        o.step(2);
        Check.same("kept", o.ground('k'), 1);
        Check.doneAs(o, 0, 27, 0, 0, 0);
        o.sky(96, 0);
        Check.same("played", o.parameter(17), 1);
        Check.same("at once", o.parameter(16), 0);
        int d = o.ground('d');
        o.step(5);
        Check.same("played stays without a PASS", o.parameter(17), 1);
        Check.same("a frame was on its way", o.ground('d'), d + 1);
        o.sky(96, 48);
        o.step(2);
        Check.same("played", o.parameter(17), 0);
        // A report told at once is gone without a PASS.
        int order = Check.tellFast(o, 0);
        o.step(1);
        o.sky(96, 0);
        o.step(1);
        Check.same("done", o.endOf(order), 0);
        Check.same("gone from its row", o.parameter(16), 0);
        int number = o.world('n') - 1;
        o.step(5);
        o.sky(96, 48);
        o.step(5);
        Check.same("never came", o.hasKept(number), false);
        Check.same("in the store", o.storeAt(0, o.store(0, 'n') - 1), number);
    }

    private static void withoutTransmitter() {
        Orbithouse o = Check.near();
        Check.doneAs(o, 0, 1, 2, 0);
        int d = o.ground('d');
        o.step(5);
        Check.same("none", o.ground('d'), d);
        Check.same("its report stays", o.parameter(16), 1);
        Check.doneAs(o, 0, 1, 3, 1);
        o.step(1);
        Check.same("the other one", o.ground('d'), d + 1);
        o.breakUnit(3, 's');
        o.step(1);
        Check.same("one that is stuck speaks", o.ground('d'), d + 2);
        o.breakUnit(3, 'd');
        o.step(1);
        Check.same("what was sent", o.ground('d'), d + 3);
        o.step(1);
        Check.same("one that is dead does not", o.ground('d'), d + 3);
    }

    private static void stores() {
        Orbithouse o = Check.near();
        Check.doneAs(o, 0, 25, 1, 0, 1);
        Check.same("classes", o.store(1, 'c'), 5);
        Check.doneAs(o, 0, 25, 0, 1, 0);
        Check.same("classes", o.store(0, 'c'), 1);
        Check.doneAs(o, 1, 50);
        // Class 0 to stores 0 and 1, class 1 to none.
        Check.same("store 0", o.store(0, 'n'), 3);
        Check.same("store 1", o.store(1, 'n'), 3);
        Check.same("store 1", o.storeAt(1, 2), 2);
        Check.same("reports", o.world('n'), 4);
        Check.doneAs(o, 0, 25, 1, 0, 1);
        Check.same("classes", o.store(1, 'c'), 5);
        Check.doneAs(o, 0, 25, 2, 5, 0);
        Check.doneAs(o, 0, 25, 2, 5, 0);
        Check.same("classes", o.store(2, 'c'), 24);
        for (int i = 0; i < 30; i++) {
            Check.doneAs(o, 0, 0);
        }
        Check.same("24 at most", o.store(0, 'n'), 24);
        Check.same("the newest", o.storeAt(0, 23), o.world('n') - 1);
        Check.same("the oldest", o.storeAt(0, 0), o.world('n') - 24);
        Check.same("sound", o.isSound(), true);
    }

    private static void bounded() {
        Orbithouse o = Check.near();
        Check.doneAs(o, 0, 26, 0, 0);
        Check.same("bounded", o.store(0, 'r'), 0);
        for (int i = 0; i < 30; i++) {
            Check.doneAs(o, 0, 0);
        }
        Check.same("24 at most", o.store(0, 'n'), 24);
        Check.same("the oldest", o.storeAt(0, 0), 0);
        Check.same("the newest", o.storeAt(0, 23), 23);
        Check.doneAs(o, 0, 26, 0, 1);
        Check.same("ring", o.store(0, 'r'), 1);
        // The end of the very command that makes it a ring comes already.
        Check.same("the oldest", o.storeAt(0, 0), 1);
        Check.same("the newest", o.storeAt(0, 23), 31);
    }

    private static void erasing() {
        Orbithouse o = Check.near();
        for (int i = 0; i < 10; i++) {
            Check.doneAs(o, 0, 0);
        }
        Check.doneAs(o, 0, 29, 0, 3);
        Check.same("first", o.storeAt(0, 0), 4);
        Check.same("how many", o.store(0, 'n'), 7);
        Check.doneAs(o, 0, 29, 0, -5);
        Check.same("first", o.storeAt(0, 0), 4);
        Check.doneAs(o, 0, 29, 1, 99);
        Check.same("another store", o.storeAt(0, 0), 4);
        Check.doneAs(o, 0, 29, 0, Integer.MAX_VALUE);
        Check.same("all but its own end", o.store(0, 'n'), 1);
    }

    private static void playingBack() {
        Orbithouse o = Check.near();
        for (int i = 0; i < 6; i++) {
            Check.doneAs(o, 0, 0);
        }
        o.step(3);
        int order = Check.tellFast(o, 27, 0, 2, 4);
        o.step(2);
        Check.same("done", o.endOf(order), 0);
        // The end of 27 went first, told at once.
        Check.same("played", o.parameter(17), 3);
        for (int i = 0; i < 3; i++) {
            Check.same("row", o.rowAt(true, i), 2 + i);
        }
        Check.refused("row", IndexOutOfBoundsException.class, o, () -> o.rowAt(true, 3));
        o.step(1);
        Check.same("played", o.parameter(17), 2);
        Check.same("row", o.rowAt(true, 0), 3);
        Check.doneAs(o, 0, 27, 0, 5, 4);
        o.step(3);
        Check.same("played", o.parameter(17), 0);
        Check.same("kept once", o.ground('k'), 8);
        // Without a frame down in between, one row comes behind the other.
        Check.doneAs(o, 0, 41, 1, 0);
        o.breakUnit(2, 'd');
        Check.doneAs(o, 0, 27, 0, 3, 4);
        Check.doneAs(o, 0, 27, 0, 1, 2);
        int[] due = {3, 4, 1, 2};
        for (int i = 0; i < 4; i++) {
            Check.same("row", o.rowAt(true, i), due[i]);
        }
        Check.same("the stores keep them", o.store(0, 'n') > 8, true);
        Check.same("sound", o.isSound(), true);
        Check.doneAs(o, 0, 28);
        Check.same("empty", o.parameter(17), 0);
    }

    private static void playedRowIsFull() {
        Orbithouse o = Check.near();
        Check.doneAs(o, 0, 41, 1, 0);
        o.breakUnit(2, 'd');
        for (int i = 0; i < 23; i++) {
            Check.doneAs(o, 0, 0);
        }
        Check.doneAs(o, 0, 27, 0, 0, 99);
        Check.same("24", o.parameter(17), 24);
        Check.doneAs(o, 0, 27, 0, 0, 99);
        Check.same("40 at most", o.parameter(17), 40);
        Check.same("the last one", o.rowAt(true, 39), o.rowAt(true, 24) + 15);
        Check.doneAs(o, 0, 27, 0, 0, 99);
        Check.same("40 at most", o.parameter(17), 40);
    }

    private static void groundKeepsTwoHundred() {
        Orbithouse o = Check.near();
        Check.doneAs(o, 0, 19, 0, 0);
        Check.doneAs(o, 0, 20, 0, 1);
        o.step(250);
        Check.same("200", o.ground('k'), 200);
        int newest = o.kept(199, 'n');
        Check.same("the oldest", o.kept(0, 'n'), newest - 199);
        Check.same("gone", o.hasKept(newest - 200), false);
        Check.same("there", o.hasKept(newest - 199), true);
        // One that is no longer kept is kept anew, behind the others.
        Check.doneAs(o, 0, 20, 0, 0);
        int old = o.storeAt(0, 0);
        Check.same("gone", o.hasKept(old), false);
        Check.doneAs(o, 0, 27, 0, old, old);
        o.step(10);
        Check.same("kept anew", o.kept(199, 'n'), old);
        Check.same("its tick", o.kept(199, 't'), 2);
        Check.same("true", o.isTrue(), true);
    }
}
