/** Part 4: the queue and the ends of commands, their ranges, what SAFE and a stuck board let, and kinds 0 to 13. */
public final class CommandTest {
    private static final int LOW = Integer.MIN_VALUE;
    private static final int HIGH = Integer.MAX_VALUE;

    /** KIND, which number (0 for x), its least and its most, and the six numbers that are in range beside it. */
    static final int[][] RANGES = {
        {1, 0, 2, 14, 2, 0, 0, 0, 0, 0}, {1, 1, 0, 1, 3, 0, 0, 0, 0, 0},
        {2, 0, 2, 14, 2, 0, 0, 0, 0, 0}, {2, 1, 0, 1, 3, 0, 0, 0, 0, 0},
        {3, 0, 0, 2, 1, 0, 0, 0, 0, 0},
        {4, 0, 0, 11, 0, 0, 0, 0, 0, 0}, {4, 1, 0, 43, 0, 0, 0, 0, 0, 0}, {4, 2, LOW, HIGH, 0, 0, 0, 0, 0, 0},
        {5, 0, 0, 11, 0, 0, 0, 0, 0, 0}, {5, 1, LOW, HIGH, 0, 0, 0, 0, 0, 0},
        {6, 0, 0, 11, 0, 900, 0, 0, 0, 0}, {6, 1, 0, 9999, 0, 900, 0, 0, 0, 0}, {6, 2, 0, 3, 0, 900, 0, 0, 0, 0},
        {7, 0, 0, 1, 0, 0, 0, 0, 0, 0},
        {8, 0, 0, 3, 0, 0, 0, 0, 0, 0}, {8, 1, 0, 1, 0, 0, 0, 0, 0, 0},
        {9, 0, 0, 3, 0, 0, 0, 0, 0, 0}, {9, 1, LOW, HIGH, 0, 0, 0, 0, 0, 0}, {9, 2, LOW, HIGH, 0, 0, 0, 0, 0, 0},
        {10, 0, 0, 3, 0, 0, 0, 0, 0, 0}, {10, 1, -200, 200, 0, 0, 0, 0, 0, 0},
        {11, 0, 0, 15, 0, 0, 0, 0, 0, 0}, {11, 1, 0, 1, 0, 0, 0, 0, 0, 0},
        {12, 0, 0, 15, 0, 0, 0, 0, 0, 0}, {12, 1, -1, 11, 0, 0, 0, 0, 0, 0},
        {13, 0, 0, 1, 0, 0, 0, 0, 0, 0},
        {14, 0, 0, 3, 0, 0, 0, 0, 0, 0}, {14, 1, 0, 11, 0, 0, 0, 0, 0, 0}, {14, 2, 0, 9, 0, 0, 0, 0, 0, 0},
        {14, 3, LOW, HIGH, 0, 0, 0, 0, 0, 0},
        {15, 0, 0, 3, 0, 1, 0, 0, 0, 0}, {15, 1, 1, 400, 0, 1, 0, 0, 0, 0},
        {16, 0, 0, 3, 0, 0, 0, 0, 0, 0}, {16, 1, 0, 1, 0, 0, 0, 0, 0, 0},
        {17, 0, 0, 3, 0, 0, 0, 0, 0, 0}, {18, 0, 0, 3, 0, 0, 0, 0, 0, 0},
        {19, 0, 0, 2, 0, 0, 0, 0, 0, 0}, {19, 1, -1, 23, 0, 0, 0, 0, 0, 0},
        {20, 0, 0, 2, 0, 0, 0, 0, 0, 0}, {20, 1, 0, 100, 0, 0, 0, 0, 0, 0},
        {21, 0, 0, 5, 0, 0, 0, 0, 1, 0}, {21, 1, 0, 23, 0, 0, 0, 0, 1, 0}, {21, 2, LOW, HIGH, 0, 0, 0, 0, 1, 0},
        {21, 3, LOW, HIGH, 0, 0, 0, 0, 1, 0}, {21, 4, 1, 9, 0, 0, 0, 0, 1, 0}, {21, 5, 0, 15, 0, 0, 0, 0, 1, 0},
        {22, 0, 0, 5, 0, 0, 0, 0, 1, 0}, {22, 1, 0, 23, 0, 0, 0, 0, 1, 0}, {22, 2, LOW, HIGH, 0, 0, 0, 0, 1, 0},
        {22, 3, LOW, HIGH, 0, 0, 0, 0, 1, 0}, {22, 4, 1, 9, 0, 0, 0, 0, 1, 0}, {22, 5, 0, 15, 0, 0, 0, 0, 1, 0},
        {23, 0, 0, 5, 0, 0, 0, 0, 1, 0}, {23, 1, 0, 23, 0, 0, 0, 0, 1, 0}, {23, 2, 0, HIGH, 0, 0, 0, 0, 1, 0},
        {23, 3, LOW, HIGH, 0, 0, 0, 0, 1, 0}, {23, 4, 1, 9, 0, 0, 0, 0, 1, 0}, {23, 5, 0, 15, 0, 0, 0, 0, 1, 0},
        {24, 0, 0, 5, 0, 0, 0, 0, 0, 0}, {24, 1, 0, 1, 0, 0, 0, 0, 0, 0},
        {25, 0, 0, 2, 0, 0, 0, 0, 0, 0}, {25, 1, 0, 5, 1, 5, 0, 0, 0, 0}, {25, 2, 0, 1, 1, 5, 0, 0, 0, 0},
        {26, 0, 0, 2, 0, 0, 0, 0, 0, 0}, {26, 1, 0, 1, 0, 0, 0, 0, 0, 0},
        {27, 0, 0, 2, 0, 9, 0, 0, 0, 0}, {27, 1, LOW, HIGH, 0, 9, -9, 0, 0, 0}, {27, 2, LOW, HIGH, 0, 9, 0, 0, 0, 0},
        {28, 0, LOW, HIGH, 0, 0, 0, 0, 0, 0},
        {29, 0, 0, 2, 0, -9, 0, 0, 0, 0}, {29, 1, LOW, HIGH, 0, -9, 0, 0, 0, 0},
        {30, 0, 0, 1, 1, 9, 0, 0, 0, 0}, {30, 1, 0, 63, 1, 9, 0, 0, 0, 0}, {30, 2, 0, 255, 1, 9, 0, 0, 0, 0},
        {31, 0, 0, 3, 0, 0, 1, 0, 0, 0}, {31, 1, 0, 63, 0, 0, 1, 0, 0, 0}, {31, 2, 1, 6, 0, 0, 1, 0, 0, 0},
        {31, 1, 0, 58, 0, 0, 6, 0, 0, 0}, {31, 2, 1, 2, 0, 62, 1, 0, 0, 0},
        {32, 0, 0, 3, 0, 0, 1, 0, 0, 0}, {32, 1, 0, 63, 0, 0, 63, 0, 0, 0}, {32, 2, 0, 63, 0, 0, 1, 0, 0, 0},
        {32, 1, 0, 5, 0, 0, 5, 0, 0, 0}, {32, 2, 7, 63, 0, 7, 7, 0, 0, 0},
        {33, 0, 2, 3, 2, 0, 0, 0, 0, 0},
        {34, 0, 2, 3, 2, 0, 0, 0, 0, 0}, {34, 1, 0, 60, 2, 0, 0, 0, 0, 0}, {34, 2, 0, 255, 2, 0, 0, 0, 0, 0},
        {34, 3, 0, 255, 2, 0, 0, 0, 0, 0}, {34, 4, 0, 255, 2, 0, 0, 0, 0, 0}, {34, 5, 0, 255, 2, 0, 0, 0, 0, 0},
        {35, 0, 2, 3, 2, 0, 0, 0, 0, 0}, {35, 1, LOW, HIGH, 2, 0, 0, 0, 0, 0},
        {36, 0, 2, 3, 2, 0, 0, 0, 0, 0},
        {38, 0, 0, 2, 0, 0, 0, 0, 0, 0}, {38, 1, 0, 15, 0, 0, 0, 0, 0, 0}, {38, 2, LOW, HIGH, 0, 0, 0, 0, 0, 0},
        {39, 0, 0, 2, 0, 1, 0, 0, 0, 0}, {39, 1, 1, 16, 0, 1, 0, 0, 0, 0}, {39, 2, LOW, HIGH, 0, 1, 0, 0, 0, 0},
        {40, 0, 0, 2, 0, 0, 0, 0, 0, 0},
        {41, 0, 1, 3, 1, 1, 0, 0, 0, 0}, {41, 1, 0, 1, 1, 1, 0, 0, 0, 0},
        {42, 0, LOW, HIGH, 0, 0, 0, 0, 0, 0},
        {43, 0, 0, 2, 0, 0, 0, 0, 0, 0}, {43, 1, 0, 15, 0, 0, 0, 0, 0, 0},
        {0, 0, LOW, HIGH, 0, 0, 0, 0, 0, 0}, {0, 5, LOW, HIGH, 0, 0, 0, 0, 0, 0},
    };

    public static void main(String[] args) {
        ranges();
        kinds();
        endIsReported();
        firstCodeCounts();
        unitsOnAndOff();
        unitsHeld();
        templates();
        schedule();
        scheduleOffOrGone();
        scheduleMoves();
        scheduleBehindReset();
        events();
        actions();
        lostWithoutRoom();
        Check.finish("CommandTest");
    }

    private static int end(Orbithouse o, int[] row, int number) {
        int[] n = java.util.Arrays.copyOfRange(row, 4, 10);
        n[row[1]] = number;
        return Check.done(o, row[0], n);
    }

    private static void ranges() {
        for (int[] row : RANGES) {
            Orbithouse o = Check.near();
            String what = "KIND " + row[0] + ", number " + row[1];
            Check.same(what + " least", end(o, row, row[2]) == 2, false);
            Check.same(what + " most", end(o, row, row[3]) == 2, false);
            if (row[2] != LOW) {
                Check.same(what + " less", end(o, row, row[2] - 1), 2);
                Check.same(what + " least of all", end(o, row, LOW), 2);
            }
            if (row[3] != HIGH) {
                Check.same(what + " more", end(o, row, row[3] + 1), 2);
                Check.same(what + " most of all", end(o, row, HIGH), 2);
            }
        }
    }

    private static void kinds() {
        Orbithouse o = Check.near();
        for (int kind : new int[] {-1, LOW, 44, 45, HIGH}) {
            Check.doneAs(o, 1, kind);
            o.step(2);
            Check.same("event 0", o.kept(o.ground('k') - 1, 'a'), 0);
            Check.same("with 44", o.kept(o.ground('k') - 1, 'b'), 44);
        }
        Check.doneAs(o, 0, 0, 1, 2, 3, 4, 5, 6);
    }

    private static void endIsReported() {
        Orbithouse o = Check.near();
        o.sky(96, 0);
        o.step(1);
        o.sky(96, 48);
        int order = Check.tellFast(o, 3, 9);
        o.step(4);
        int[] due = {0, 3, 0, 2, order, 0, 1, 3, 1, 0, 3, 0};
        for (int i = 0; i < 12; i++) {
            Check.same("report " + i / 6 + " " + "ntcabm".charAt(i % 6), o.kept(i / 6, "ntcabm".charAt(i % 6)), due[i]);
        }
        Check.same("reports made", o.world('n'), 2);
        // One that is not of the ground has -1.
        Check.doneAs(o, 0, 6, 0, 20);
        Check.doneAs(o, 0, 7, 1);
        o.step(15);
        int last = o.ground('k') - 1;
        Check.same("class", o.kept(last, 'c'), 0);
        Check.same("done", o.kept(last, 'a'), 0);
        Check.same("no ORDER", o.kept(last, 'b'), -1);
        Check.same("tick", o.kept(last, 't'), 20);
    }

    private static void firstCodeCounts() {
        Orbithouse o = Check.near();
        Check.doneAs(o, 0, 3, 0);
        Check.same("SAFE", o.parameter(1), 0);
        Check.doneAs(o, 0, 3, 0);
        // Not let in SAFE, but out of range ahead of it.
        Check.doneAs(o, 2, 6, 0, 9, 4);
        Check.doneAs(o, 3, 6, 0, 0, 0);
        Check.doneAs(o, 3, 15, 0, 1);
        Check.doneAs(o, 2, 15, 0, 0);
        Check.doneAs(o, 3, 7, 1);
        Check.doneAs(o, 0, 7, 0);
        Check.doneAs(o, 3, 13, 1);
        Check.doneAs(o, 0, 13, 0);
        Check.doneAs(o, 3, 16, 0, 0);
        Check.doneAs(o, 4, 16, 0, 1);
        Check.doneAs(o, 3, 1, 14, 1);
        Check.doneAs(o, 0, 1, 14, 0);
        Check.doneAs(o, 0, 1, 13, 1);
        Check.doneAs(o, 1, 44);
    }

    private static void unitsOnAndOff() {
        Orbithouse o = Check.near();
        for (int unit = 2; unit < 15; unit++) {
            Check.doneAs(o, 0, 1, unit, 1);
            Check.same("on " + unit, o.unit(unit, 'o'), 1);
        }
        // It is warm: heaters are put off again.
        Check.same("units on", o.parameter(8), 13);
        Check.doneAs(o, 0, 41, 1, 0);
        o.breakUnit(13, 'd');
        o.step(4);
        Check.same("misses", o.unit(13, 'm'), 4);
        Check.doneAs(o, 0, 1, 13, 1);
        // The unit was asked ahead of the command, which makes its misses 0.
        Check.same("misses of one put on", o.unit(13, 'm'), 0);
        Check.doneAs(o, 0, 1, 13, 0);
        Check.same("misses of one put off stay", o.unit(13, 'm'), 2);
        o.step(5);
        Check.same("one that is off is not asked", o.unit(13, 'm'), 2);
        Check.doneAs(o, 0, 42);
        Check.same("misses", o.unit(13, 'm'), 0);
        Check.doneAs(o, 0, 2, 13, 1);
        Check.doneAs(o, 4, 1, 13, 1);
        Check.doneAs(o, 0, 1, 13, 0);
        for (int unit = 2; unit < 15; unit++) {
            if (unit == 2) {
                continue;
            }
            Check.doneAs(o, 0, 1, unit, 0);
            Check.same("off " + unit, o.unit(unit, 'o'), 0);
        }
    }

    private static void unitsHeld() {
        Orbithouse o = Check.near();
        for (int unit = 3; unit < 15; unit++) {
            Check.doneAs(o, 0, 2, unit, 1);
            Check.same("bad " + unit, o.unit(unit, 'b'), 1);
            Check.same("off " + unit, o.unit(unit, 'o'), 0);
        }
        Check.same("bad ones", o.parameter(9), 12);
        Check.same("the other one of the pair stays", o.unit(2, 'o'), 1);
        for (int unit = 3; unit < 15; unit++) {
            Check.doneAs(o, 0, 2, unit, 0);
            Check.same("good " + unit, o.unit(unit, 'b'), 0);
            Check.same("off " + unit, o.unit(unit, 'o'), 0);
        }
        Check.same("no event 1 by a command", Check.count(o, 1, 1), 0);
        Check.doneAs(o, 0, 41, 1, 0);
        o.breakUnit(2, 'd');
        o.step(5);
        Check.same("misses", o.unit(2, 'm'), 5);
        o.breakUnit(2, 'g');
        o.breakUnit(10, 'd');
        Check.doneAs(o, 0, 1, 10, 1);
        o.step(3);
        Check.same("misses", o.unit(10, 'm'), 3);
        Check.doneAs(o, 0, 2, 10, 0);
        Check.same("misses of one held good", o.unit(10, 'm'), 0);
        Check.same("it stays on", o.unit(10, 'o'), 1);
    }

    private static void templates() {
        Orbithouse o = Check.near();
        Check.doneAs(o, 0, 4, 11, 43, 1, 2, 3, 4);
        Check.doneAs(o, 0, 5, 11, 5, 6);
        Check.doneAs(o, 0, 4, 0, 7, HIGH, LOW, -1, -2);
        int[] due = {43, 1, 2, 3, 4, 5, 6, 7, HIGH, LOW, -1, -2, 0, 0};
        for (int i = 0; i < 14; i++) {
            Check.same("template", o.template(i < 7 ? 11 : 0, i % 7), due[i]);
        }
        Check.doneAs(o, 0, 4, 11, 42, 9, 8, 7, 6);
        Check.same("the last two are 0 again", o.template(11, 5), 0);
        Check.same("the last two are 0 again", o.template(11, 6), 0);
    }

    private static void schedule() {
        Orbithouse o = Check.near();
        Check.doneAs(o, 0, 4, 0, 31, 1, 60, 4);
        int t = o.parameter(0);
        Check.doneAs(o, 4, 6, 0, t + 2, 0);
        Check.doneAs(o, 4, 6, 0, 0, 0);
        Check.doneAs(o, 0, 6, 0, t + 7, 0);
        Check.doneAs(o, 0, 6, 0, t + 60, 1);
        Check.doneAs(o, 0, 7, 1);
        o.step(1);
        // t + 11: the first entry's tick went by with the schedule off.
        Check.same("LOST", o.parameter(15), 1);
        Check.same("entries", o.parameter(7), 1);
        // A template that changes later does not change the entry.
        Check.doneAs(o, 0, 4, 0, 99 - 56, 2, 2, 2);
        o.step(o.entryAt(0, 't') - o.parameter(0) - 1);
        Check.same("not yet", Check.count(o, 3, 1), 0);
        o.step(3);
        Check.report("as it was told", o, 3, 1, 60, 0, 0, 0, 0);
        Check.same("in its tick", o.kept(Check.latest(o, 3, 1), 't'), t + 60);
        Check.same("entries", o.parameter(7), 0);
        for (int i = 0; i < 16; i++) {
            Check.doneAs(o, 0, 6, 1, 9999, i % 4);
        }
        Check.doneAs(o, 4, 6, 1, 9999, 0);
        Check.same("entries", o.parameter(7), 16);
        Check.same("sound", o.isSound(), true);
    }

    private static void scheduleOffOrGone() {
        Orbithouse o = Check.near();
        Check.doneAs(o, 0, 7, 1);
        Check.same("schedule", o.isOn('s'), true);
        Check.doneAs(o, 0, 8, 2, 0);
        Check.same("group 2", o.isOn('2'), false);
        Check.same("group 3", o.isOn('3'), true);
        Check.doneAs(o, 0, 6, 0, 30, 2);
        Check.doneAs(o, 0, 6, 0, 31, 3);
        for (int i = 0; i < 5; i++) {
            Check.doneAs(o, 0, 6, 0, 40 + i, 1);
        }
        int made = o.world('n');
        o.step(31 - o.parameter(0));
        Check.same("LOST of a group that is off", o.parameter(15), 1);
        Check.same("done of the other", o.world('n'), made + 1);
        Check.doneAs(o, 0, 8, 2, 1);
        Check.same("group 2", o.isOn('2'), true);
        Check.doneAs(o, 0, 9, 1, 41, 43);
        Check.same("two are left", o.parameter(7), 2);
        Check.same("the first one", o.entryAt(0, 't'), 40);
        Check.same("the last one", o.entryAt(1, 't'), 44);
        Check.doneAs(o, 0, 9, 2, LOW, HIGH);
        Check.same("another group", o.parameter(7), 2);
        Check.doneAs(o, 0, 9, 1, 44, 40);
        Check.same("from y to z", o.parameter(7), 2);
        Check.same("gone is not LOST", o.parameter(15), 1);
        o.step(50 - o.parameter(0));
        Check.same("none", o.parameter(7), 0);
        Check.same("LOST", o.parameter(15), 1);
        Check.doneAs(o, 0, 7, 0);
        Check.same("schedule", o.isOn('s'), false);
    }

    private static void scheduleMoves() {
        Orbithouse o = Check.near();
        Check.doneAs(o, 0, 6, 0, 60, 1);
        Check.doneAs(o, 0, 6, 0, 50, 1);
        Check.doneAs(o, 0, 6, 0, 55, 2);
        Check.doneAs(o, 0, 10, 1, 200);
        Check.same("later", o.entryAt(0, 't'), 260);
        Check.same("later", o.entryAt(1, 't'), 250);
        Check.same("another group", o.entryAt(2, 't'), 55);
        Check.doneAs(o, 0, 10, 1, -200);
        Check.same("earlier", o.entryAt(1, 't'), 50);
        int t = o.parameter(0);
        // Done at t + 2: 50 must stay above it.
        Check.doneAs(o, 4, 10, 1, t + 2 - 50);
        Check.same("none moved", o.entryAt(0, 't'), 60);
        Check.same("none moved", o.entryAt(1, 't'), 50);
        t = o.parameter(0);
        Check.doneAs(o, 0, 10, 1, t + 3 - 50);
        Check.same("moved", o.entryAt(1, 't'), t + 3);
        Check.doneAs(o, 0, 10, 3, -200);
        o.step(20);
        Check.same("off: LOST", o.parameter(15), 2);
        Check.same("one is left", o.parameter(7), 1);
    }

    private static void scheduleBehindReset() {
        Orbithouse o = Check.near();
        Check.doneAs(o, 0, 6, 0, 10, 0);
        Check.doneAs(o, 0, 6, 0, 12, 0);
        Check.doneAs(o, 0, 6, 0, 14, 0);
        Check.doneAs(o, 0, 6, 0, 30, 0);
        Check.same("T", o.parameter(0), 8);
        // A reset at T 10; it is started at 14, and looks at the schedule at 15.
        Check.doneAs(o, 0, 37);
        Check.same("entries stay", o.parameter(7), 3);
        Check.same("LOST", o.parameter(15), 1);
        o.step(4);
        Check.same("runs", o.board(), 'r');
        Check.same("entries stay", o.parameter(7), 3);
        o.step(1);
        Check.same("those that went by are gone", o.parameter(7), 1);
        Check.same("LOST", o.parameter(15), 3);
    }

    private static void events() {
        Orbithouse o = Check.near();
        Check.doneAs(o, 1, 77);
        Check.doneAs(o, 0, 11, 0, 0);
        Check.same("not told", o.event(0, 't'), 0);
        Check.doneAs(o, 1, 77);
        o.step(3);
        Check.same("told once", Check.count(o, 1, 0), 1);
        Check.doneAs(o, 0, 11, 0, 1);
        Check.doneAs(o, 1, 77);
        o.step(3);
        Check.same("told again", Check.count(o, 1, 0), 2);
    }

    private static void actions() {
        Orbithouse o = Check.near();
        Check.doneAs(o, 0, 4, 5, 31, 0, 0, 2);
        Check.doneAs(o, 0, 12, 0, 5);
        Check.same("action", o.event(0, 'a'), 5);
        Check.doneAs(o, 1, 77);
        o.step(2);
        Check.same("actions are off", Check.count(o, 3, 0), 0);
        Check.doneAs(o, 0, 13, 1);
        Check.same("actions", o.isOn('a'), true);
        int order = Check.tellFast(o, 77);
        o.step(2);
        Check.same("failed", o.endOf(order), 1);
        Check.same("queue", o.parameter(6), 1);
        Check.same("by an action", o.queueAt(0, 'f'), 'a');
        Check.same("no ORDER", o.queueAt(0, 'o'), -1);
        int[] due = {31, 0, 0, 2, 0, 0, 0};
        for (int i = 0; i < 7; i++) {
            Check.same("the template", o.queueAt(0, "kxyzuvw".charAt(i)), due[i]);
        }
        o.step(4);
        Check.report("the action", o, 3, 0, 0, 40, 25);
        // Told or not.
        Check.doneAs(o, 0, 11, 0, 0);
        Check.doneAs(o, 1, 77);
        o.step(4);
        Check.same("action of an event that is not told", Check.count(o, 3, 0), 2);
        Check.doneAs(o, 0, 12, 0, -1);
        Check.same("none", o.event(0, 'a'), -1);
        Check.doneAs(o, 1, 77);
        o.step(4);
        Check.same("no action", Check.count(o, 3, 0), 2);
        Check.doneAs(o, 0, 13, 0);
        Check.same("actions", o.isOn('a'), false);
    }

    private static void lostWithoutRoom() {
        Orbithouse o = Check.near();
        Check.doneAs(o, 0, 7, 1);
        for (int i = 0; i < 10; i++) {
            Check.doneAs(o, 0, 6, 0, 50, 0);
        }
        o.step(50 - o.parameter(0));
        // Ten come, eight find room, and one of them is done.
        Check.same("LOST", o.parameter(15), 2);
        Check.same("queue", o.parameter(6), 7);
        Check.same("by the schedule", o.queueAt(0, 'f'), 's');
        Check.same("sound", o.isSound(), true);
    }
}
