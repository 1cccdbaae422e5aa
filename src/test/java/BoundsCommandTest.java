/** The boundaries of part 4, and of the schedule and events of part 5: ranges, ends, full and empty rows. */
public final class BoundsCommandTest {
    private static final int LOW = Integer.MIN_VALUE;
    private static final int HIGH = Integer.MAX_VALUE;

    public static void main(String[] args) {
        eightInTheQueue();
        outOfRangeChangesNothing();
        notLetChangesNothing();
        failingChangesNothing();
        stuckChangesNothing();
        eventOfEachKind();
        firstCodeOfAll();
        units();
        templates();
        tickOfEntry();
        sixteenEntries();
        entriesThatAreGone();
        entriesStandInTheirOrder();
        entriesMove();
        entriesOfOneTick();
        oneRoomForTwo();
        groups();
        scheduleAsItIsLookedAt();
        eventsOfSixteen();
        actionsOfTwelve();
        levels();
        payloadInSafe();
        Check.finish("BoundsCommandTest");
    }

    /** "At most 8 commands": by an action that fails, and so brings itself again, the queue stays full. */
    private static void eightInTheQueue() {
        Orbithouse o = Check.near();
        Check.doneAs(o, 0, 4, 0, 24, 0, 1);
        Check.doneAs(o, 0, 12, 0, 0);
        Check.doneAs(o, 0, 13, 1);
        int waits = Check.tellInOrder(o, 0);
        int[] orders = Check.together(o, Check.times(8, 24, 0, 1));
        o.step(1);
        for (int i = 0; i < 30; i++) {
            Check.same("the queue", o.parameter(6), 8);
            Check.same("it is full, and no more", o.isSound(), true);
            Check.same("the last of it", o.queueAt(7, 'f'), 'a');
            Check.refused("no ninth", IndexOutOfBoundsException.class, o, () -> o.queueAt(8, 'k'));
            Check.same("WAIT stays", o.receiver('w'), 1);
            Check.same("AGAIN too", o.receiver('a'), 1);
            Check.same("none is LOST", o.parameter(15), 0);
            Check.same("of the ground", o.endOf(orders[Math.min(7, i)]), 4);
            Check.same("the next one", i < 7 ? o.endOf(orders[i + 1]) : -2, -2);
            o.step(1);
        }
        Check.same("not come", o.endOf(waits), -1);
        Check.same("it waits in SENT", o.ground('s'), 1);
        // A fast one does not come either.
        int fast = Check.tellFast(o, 13, 0);
        o.step(3);
        Check.same("gone", o.endOf(fast), -1);
        // A reset empties it: all in it have no ORDER by now.
        o.hang();
        o.step(9);
        Check.same("the queue", o.parameter(6), 0);
        Check.same("WAIT is off as it is started", o.receiver('w'), 0);
        o.step(30);
        Check.same("come", o.endOf(waits), 0);
    }

    /** Each number of each KIND just outside of its range, and far outside. */
    private static void outOfRangeChangesNothing() {
        for (int[] row : CommandTest.RANGES) {
            int[] wrong = {row[2] - 1, LOW, row[3] + 1, HIGH};
            for (int i = 0; i < 4; i++) {
                boolean isOutside = i < 2 ? row[2] != LOW : row[3] != HIGH;
                if (isOutside) {
                    int[] n = java.util.Arrays.copyOfRange(row, 4, 10);
                    n[row[1]] = wrong[i];
                    Check.noEffect("out of range", 2, BoundsCommandTest::busy, row[0], n);
                }
            }
        }
        for (int kind : new int[] {-1, LOW, 45, HIGH}) {
            Check.noEffect("no such KIND", 1, BoundsCommandTest::busy, kind, 1, 1, 1, 1, 1, 1);
        }
    }

    /** Has something of all that commands change. */
    private static Orbithouse busy() {
        Orbithouse o = Check.near();
        Check.doneAs(o, 0, 4, 0, 31, 1, 2, 3, 4);
        Check.doneAs(o, 0, 6, 0, 900, 0);
        Check.doneAs(o, 0, 14, 0, 0, 1, 90, 0, 0);
        Check.doneAs(o, 0, 19, 0, 5);
        Check.doneAs(o, 0, 21, 0, 1, 0, 9, 3, 4);
        Check.doneAs(o, 0, 12, 0, 0);
        Check.doneAs(o, 0, 33, 3);
        Check.doneAs(o, 0, 38, 0, 0, 1, 2, 3, 4);
        Check.doneAs(o, 0, 30, 1, 9, 77);
        return o;
    }

    private static Orbithouse safe() {
        Orbithouse o = busy();
        Check.doneAs(o, 0, 3, 0);
        return o;
    }

    private static void notLetChangesNothing() {
        Check.Maker safe = BoundsCommandTest::safe;
        Check.noEffect("SAFE", 3, safe, 6, 0, 900, 0);
        Check.noEffect("SAFE", 3, safe, 15, 0, 9);
        Check.noEffect("SAFE", 3, safe, 7, 1);
        Check.noEffect("SAFE", 3, safe, 13, 1);
        Check.noEffect("SAFE", 3, safe, 16, 0, 0);
        Check.noEffect("SAFE", 3, safe, 1, 14, 1);
        Check.noEffect("SAFE since two ticks", 4, safe, 3, 1);
        Check.noEffect("SAFE since two ticks", 4, safe, 3, 2);
        // What is let beside it.
        int[][] let = {{7, 0}, {13, 0}, {1, 14, 0}, {1, 13, 1}, {3, 0}, {4, 0, 6}, {9, 0}, {10, 0, 1}, {14, 0, 1, 1, 5},
            {18, 0}, {8, 0, 1}, {12, 0, 0}, {41, 1, 1}};
        for (int[] command : let) {
            Check.doneAs(safe(), 0, command[0], java.util.Arrays.copyOfRange(command, 1, command.length));
        }
    }

    private static Orbithouse running() {
        Orbithouse o = busy();
        Check.doneAs(o, 0, 15, 0, 400);
        return o;
    }

    private static Orbithouse held() {
        Orbithouse o = running();
        Check.doneAs(o, 0, 16, 0, 1);
        return o;
    }

    private static Orbithouse wholeFile() {
        Orbithouse o = busy();
        int d = 7;
        for (int i = 1; i <= 4; i++) {
            d = (257 * d + i) % 65521;
        }
        Check.doneAs(o, 0, 39, 0, 1, d);
        return o;
    }

    private static Orbithouse fullRows() {
        Orbithouse o = busy();
        for (int i = 0; i < 5; i++) {
            Check.doneAs(o, 0, 19, 0, 5);
        }
        for (int i = 0; i < 15; i++) {
            Check.doneAs(o, 0, 6, 0, 901 + i, 0);
        }
        Check.doneAs(o, 0, 2, 5, 1);
        return o;
    }

    private static Orbithouse oneEntry() {
        Orbithouse o = busy();
        Check.doneAs(o, 0, 6, 0, 900, 1);
        Check.doneAs(o, 0, 6, 0, 150, 1);
        return o;
    }

    private static void failingChangesNothing() {
        Check.Maker busy = BoundsCommandTest::busy;
        Check.Maker running = BoundsCommandTest::running;
        Check.Maker held = BoundsCommandTest::held;
        Check.Maker whole = BoundsCommandTest::wholeFile;
        Check.Maker full = BoundsCommandTest::fullRows;
        Check.noEffect("held bad", 4, full, 1, 5, 1);
        Check.noEffect("not above T", 4, busy, 6, 0, 20, 0);
        Check.noEffect("16 entries", 4, full, 6, 0, 9999, 3);
        Check.noEffect("one would not be above T", 4, BoundsCommandTest::oneEntry, 10, 1, -200);
        Check.noEffect("above how many rows", 4, busy, 14, 0, 2, 1, 1, 1, 1);
        Check.noEffect("above how many rows", 4, busy, 14, 1, 1, 1, 1, 1, 1);
        Check.noEffect("it runs", 4, running, 14, 0, 0, 1, 1, 1, 1);
        Check.noEffect("it is held", 4, held, 14, 0, 0, 1, 1, 1, 1);
        Check.noEffect("no rows", 4, busy, 15, 1, 9);
        Check.noEffect("it runs", 4, running, 15, 0, 9);
        Check.noEffect("it is held", 4, held, 15, 0, 9);
        Check.noEffect("it does not run", 4, busy, 16, 0, 1);
        Check.noEffect("it is held", 4, held, 16, 0, 1);
        Check.noEffect("it is not held", 4, busy, 16, 0, 0);
        Check.noEffect("it is not held", 4, running, 16, 0, 0);
        Check.noEffect("neither runs nor is held", 4, busy, 17, 0);
        Check.noEffect("it runs", 4, running, 18, 0);
        Check.noEffect("it is held", 4, held, 18, 0);
        Check.noEffect("it would have 7", 4, full, 19, 0, 3);
        Check.noEffect("never told", 4, busy, 24, 1, 1);
        Check.noEffect("never told", 4, busy, 24, 5, 0);
        Check.noEffect("started from it", 4, busy, 33, 2);
        Check.noEffect("not begun", 4, busy, 34, 2, 0, 1, 2, 3, 4);
        Check.noEffect("not begun", 4, busy, 35, 2, busy().image(2, 's'));
        Check.noEffect("another sum", 4, busy, 35, 3, 1);
        Check.noEffect("not whole", 4, busy, 36, 3);
        Check.noEffect("whole", 4, whole, 38, 0, 1, 5, 5, 5, 5);
        Check.noEffect("whole", 4, whole, 39, 0, 1, 0);
        Check.noEffect("not there", 4, busy, 43, 0, 1);
        Check.noEffect("not there", 4, busy, 43, 1, 0);
    }

    private static void stuckChangesNothing() {
        for (int kind = 1; kind < 44; kind++) {
            boolean isLet = kind >= 33 && kind <= 37;
            if (!isLet) {
                int x = kind == 7 || kind == 13 || kind == 30 || kind == 41 ? 1 : 2;
                Check.noEffect("stuck", 3, BoundsCommandTest::stuck, kind, x, 1, 1, 1, 1, 1);
            }
        }
        Check.noEffect("stuck", 2, BoundsCommandTest::stuck, 36, 4);
        Check.noEffect("stuck", 4, BoundsCommandTest::stuck, 36, 3);
        Check.noEffect("stuck, and none is", 4, BoundsCommandTest::stuck, 35, 2, 0);
        // One command a tick.
        Orbithouse o = stuck();
        int[] orders = Check.together(o, Check.times(8, 0));
        for (int i = 0; i < 8; i++) {
            Check.same("not yet", o.endOf(orders[i]) == 0, false);
            o.step(1);
            Check.same("done", o.endOf(orders[i]), 0);
        }
    }

    private static Orbithouse stuck() {
        Orbithouse o = busy();
        o.flip(2, 0, 1);
        o.flip(2, 0, 2);
        Check.doneAs(o, 0, 37);
        o.step(4);
        Check.same("stuck", o.board(), 'k');
        return o;
    }

    /** "Event 0 comes, with the KIND, 44 for all greater ones and those below 0." */
    private static void eventOfEachKind() {
        for (int kind = -1; kind <= 46; kind++) {
            boolean hasNoRange = kind == 0 || kind == 28 || kind == 37 || kind == 42;
            Orbithouse o = Check.near();
            int made = o.world('n');
            boolean isKind = kind >= 0 && kind <= 43;
            Check.doneAs(o, hasNoRange ? 0 : isKind ? 2 : 1, kind, LOW, LOW, LOW, LOW, LOW, LOW);
            if (!hasNoRange) {
                Check.same("two reports", o.world('n'), made + 2);
                o.step(2);
                Check.report("event 0 of " + kind, o, 1, 0, isKind ? kind : 44);
            }
        }
        Orbithouse o = Check.near();
        Check.doneAs(o, 4, 43, 2, 15);
        o.step(2);
        Check.report("one that fails", o, 1, 0, 43);
        Check.doneAs(o, 1, LOW);
        o.step(2);
        Check.report("least of all", o, 1, 0, 44);
        Check.doneAs(o, 1, HIGH);
        o.step(2);
        Check.report("most of all", o, 1, 0, 44);
    }

    /** "The first of these that is so". */
    private static void firstCodeOfAll() {
        // In SAFE and out of range; in SAFE, and it would fail; stuck, and it would fail.
        Check.doneAs(safe(), 2, 6, 12, 1, 0);
        Check.doneAs(safe(), 3, 6, 0, 1, 0);
        Check.doneAs(safe(), 2, 15, 1, 401);
        Check.doneAs(safe(), 3, 15, 1, 400);
        Check.doneAs(safe(), 2, 1, 14, 2);
        Check.doneAs(safe(), 2, 1, 15, 1);
        Check.doneAs(safe(), 1, 44, 14, 1);
        Check.doneAs(stuck(), 1, 44);
        Check.doneAs(stuck(), 2, 18, 4);
        Check.doneAs(stuck(), 3, 17, 0);
        Check.doneAs(stuck(), 4, 34, 2, 0, 1, 1, 1, 1);
        Check.doneAs(stuck(), 2, 34, 2, 61, 1, 1, 1, 1);
    }

    private static void units() {
        Orbithouse o = Check.near();
        Check.doneAs(o, 0, 30, 0, 7, 255);
        for (int unit = 2; unit <= 14; unit++) {
            Check.doneAs(o, 0, 1, unit, 1);
            Check.same("on", o.unit(unit, 'o'), 1);
        }
        Check.same("15 units", o.parameter(8), 15);
        Check.near("share", o.onShare(), 1f);
        for (int unit : new int[] {LOW, -1, 0, 1, 15, HIGH}) {
            Check.doneAs(o, 2, 1, unit, 0);
            Check.doneAs(o, 2, 2, unit, 1);
        }
        Check.doneAs(o, 0, 41, 3, 0);
        for (int unit = 3; unit <= 14; unit++) {
            Check.doneAs(o, 0, 2, unit, 1);
            Check.doneAs(o, 4, 1, unit, 1);
            Check.doneAs(o, 0, 1, unit, 0);
            Check.same("bad", o.unit(unit, 'b'), 1);
        }
        Check.same("held bad", o.parameter(9), 12);
        Check.same("sound", o.isSound(), true);
    }

    /** 12 templates; 4 tells four numbers and makes two 0, 5 tells those two alone. */
    private static void templates() {
        Orbithouse o = Check.near();
        for (int i = 0; i < 12; i++) {
            Check.doneAs(o, 0, 4, i, 43 - i, i, LOW + i, HIGH - i, -i);
            Check.doneAs(o, 0, 5, i, 100 + i, -100 - i);
        }
        for (int i = 0; i < 12; i++) {
            int[] due = {43 - i, i, LOW + i, HIGH - i, -i, 100 + i, -100 - i};
            for (int j = 0; j < 7; j++) {
                Check.same("template " + i, o.template(i, j), due[j]);
            }
        }
        Check.doneAs(o, 0, 5, 11, HIGH, LOW);
        Check.same("last but one", o.template(11, 5), HIGH);
        Check.same("last", o.template(11, 6), LOW);
        Check.same("its KIND stays", o.template(11, 0), 32);
        Check.doneAs(o, 0, 4, 11, 0);
        for (int j = 0; j < 7; j++) {
            Check.same("all 0", o.template(11, j), 0);
        }
        Check.same("the one ahead", o.template(10, 5), 110);
    }

    /** "Fails if y is not above T": T, and 1 more, which is looked at in the next tick. */
    private static void tickOfEntry() {
        Orbithouse o = Check.near();
        Check.doneAs(o, 0, 7, 1);
        Check.doneAs(o, 4, 6, 0, 4, 0);
        Check.doneAs(o, 4, 6, 0, 5, 0);
        Check.doneAs(o, 0, 6, 0, 9, 0);
        Check.same("T", o.parameter(0), 8);
        Check.same("an entry", o.parameter(7), 1);
        int made = o.world('n');
        o.step(1);
        Check.same("gone", o.parameter(7), 0);
        Check.same("done", o.world('n'), made + 1);
        Check.same("not LOST", o.parameter(15), 0);
        Check.doneAs(o, 0, 6, 0, 9999, 0);
        Check.doneAs(o, 2, 6, 0, 10000, 0);
        Check.same("for a tick that never comes", o.entryAt(0, 't'), 9999);
    }

    private static void sixteenEntries() {
        Orbithouse o = Check.near();
        Check.doneAs(o, 0, 7, 1);
        for (int i = 0; i < 16; i++) {
            Check.same("entries", o.parameter(7), i);
            Check.doneAs(o, 0, 6, i % 12, 60 + i, i % 4);
        }
        Check.same("16", o.parameter(7), 16);
        Check.same("sound", o.isSound(), true);
        Check.doneAs(o, 4, 6, 0, 100, 0);
        for (int i = 0; i < 16; i++) {
            Check.same("tick", o.entryAt(i, 't'), 60 + i);
            Check.same("group", o.entryAt(i, 'g'), i % 4);
        }
        Check.refused("a 17th", IndexOutOfBoundsException.class, o, () -> o.entryAt(16, 't'));
        Check.refused("below 0", IndexOutOfBoundsException.class, o, () -> o.entryAt(-1, 't'));
        o.step(60 - o.parameter(0));
        Check.same("15", o.parameter(7), 15);
        Check.doneAs(o, 0, 6, 0, 100, 0);
        Check.same("the newest is the last", o.entryAt(o.parameter(7) - 1, 't'), 100);
    }

    /** 9 takes those from y to z, both of them with it, of one group; none is LOST. */
    private static void entriesThatAreGone() {
        int[][] cases = {{50, 50, 4}, {49, 51, 4}, {51, 59, 5}, {50, 60, 3}, {61, 69, 5}, {60, 69, 4}, {70, 60, 5},
            {LOW, HIGH, 1}, {HIGH, LOW, 5}, {LOW, 50, 4}, {80, HIGH, 4}, {81, HIGH, 5}, {LOW, 49, 5}, {60, 60, 4},
            {80, 80, 4}, {59, 61, 4}};
        for (int[] c : cases) {
            Orbithouse o = Check.near();
            for (int tick : new int[] {50, 60, 70, 80}) {
                Check.doneAs(o, 0, 6, 0, tick, 3);
            }
            Check.doneAs(o, 0, 6, 0, 60, 2);
            Check.doneAs(o, 0, 9, 3, c[0], c[1]);
            Check.same("entries behind 9 from " + c[0] + " to " + c[1], o.parameter(7), c[2]);
            Check.same("none is LOST", o.parameter(15), 0);
            int left = 0;
            for (int tick : new int[] {50, 60, 70, 80}) {
                if (tick < c[0] || tick > c[1]) {
                    Check.same("one that stays", o.entryAt(left, 't'), tick);
                    left++;
                }
            }
            Check.same("the other group", o.entryAt(left, 'g'), 2);
        }
        Check.doneAs(Check.near(), 0, 9, 0, LOW, HIGH);
    }

    /** Behind one that is gone the others stand closer, with their own tick, group and command. */
    private static void entriesStandInTheirOrder() {
        for (int gone = 0; gone < 16; gone++) {
            Orbithouse o = Check.near();
            for (int i = 0; i < 12; i++) {
                Check.doneAs(o, 0, 4, i, i + 20);
            }
            for (int i = 0; i < 16; i++) {
                Check.doneAs(o, 0, 6, i % 12, 100 + i, i % 4);
            }
            Check.doneAs(o, 0, 9, gone % 4, 100 + gone, 100 + gone);
            Check.same("15", o.parameter(7), 15);
            for (int i = 0; i < 15; i++) {
                int was = i < gone ? i : i + 1;
                Check.same("tick", o.entryAt(i, 't'), 100 + was);
                Check.same("group", o.entryAt(i, 'g'), was % 4);
                Check.same("KIND", o.entryAt(i, 'k'), was % 12 + 20);
            }
        }
    }

    /** 10: "fails if one would not be above T", by one tick; ticks may become greater than any that comes. */
    private static void entriesMove() {
        Orbithouse o = Check.near();
        Check.doneAs(o, 0, 6, 0, 9999, 0);
        Check.doneAs(o, 0, 10, 0, 200);
        Check.doneAs(o, 0, 10, 0, 200);
        Check.same("later", o.entryAt(0, 't'), 10399);
        Check.doneAs(o, 2, 10, 0, 201);
        Check.doneAs(o, 2, 10, 0, -201);
        Check.doneAs(o, 0, 10, 0, -200);
        Check.doneAs(o, 0, 10, 0, 0);
        Check.same("earlier", o.entryAt(0, 't'), 10199);
        Check.doneAs(o, 0, 10, 1, -200);
        for (int more = 0; more < 2; more++) {
            for (int first = 0; first < 2; first++) {
                Orbithouse p = Check.near();
                // At T 8 one of them would be for the tick 8, or 9.
                Check.doneAs(p, 0, 6, 0, first == 0 ? 100 : 150, 2);
                Check.doneAs(p, 0, 6, 0, first == 0 ? 150 : 100, 2);
                Check.doneAs(p, 0, 6, 0, 20, 3);
                Check.doneAs(p, more == 0 ? 4 : 0, 10, 2, -92 + more);
                Check.same("T", p.parameter(0), 8);
                Check.same("all of them or none", p.entryAt(0, 't') + p.entryAt(1, 't'), more == 1 ? 68 : 250);
                Check.same("another group", p.entryAt(2, 't'), 20);
            }
        }
        // T 0 is not above T either way.
        Orbithouse p = Check.near();
        Check.doneAs(p, 0, 6, 0, 100, 2);
        Check.doneAs(p, 4, 10, 2, -200);
    }

    /** "By entries as they came": in one tick, whatever their groups. */
    private static void entriesOfOneTick() {
        Orbithouse o = Check.near();
        Check.doneAs(o, 0, 7, 1);
        for (int i = 0; i < 9; i++) {
            Check.doneAs(o, 0, 4, i, 31, 1, 60 - i, 1);
            Check.doneAs(o, 0, 6, i, 80, (7 * i) % 4);
        }
        o.step(80 - o.parameter(0));
        Check.same("the ninth found no room", o.parameter(15), 1);
        Check.same("one is done, seven wait", o.parameter(6), 7);
        for (int i = 0; i < 7; i++) {
            Check.same("in their order", o.queueAt(i, 'y'), 59 - i);
            Check.same("of the schedule", o.queueAt(i, 'f'), 's');
            Check.same("without an ORDER", o.queueAt(i, 'o'), -1);
        }
        Check.same("no entry", o.parameter(7), 0);
        Check.refused("no entry", IndexOutOfBoundsException.class, o, () -> o.entryAt(0, 't'));
    }

    /** The queue has 7: of two entries the second one is LOST, by 1. */
    private static void oneRoomForTwo() {
        for (int ahead = 6; ahead <= 8; ahead++) {
            Orbithouse o = Check.near();
            Check.doneAs(o, 0, 7, 1);
            Check.doneAs(o, 0, 6, 0, 20, 0);
            Check.doneAs(o, 0, 6, 0, 20, 0);
            o.step(20 - ahead - 1 - o.parameter(0));
            Check.together(o, Check.times(ahead, 0));
            Check.same("T", o.parameter(0), 19);
            o.step(1);
            Check.same("LOST with " + ahead, o.parameter(15), ahead - 6);
            Check.same("the queue", o.parameter(6), 7);
        }
    }

    private static void groups() {
        for (int off = 0; off < 4; off++) {
            Orbithouse o = Check.near();
            Check.doneAs(o, 0, 7, 1);
            Check.doneAs(o, 0, 8, off, 0);
            for (int group = 0; group < 4; group++) {
                Check.same("group", o.isOn((char) ('0' + group)), group != off);
                Check.doneAs(o, 0, 4, group, 31, 0, group, 1);
                Check.doneAs(o, 0, 6, group, 40, group);
            }
            o.step(50 - o.parameter(0));
            Check.same("one is LOST", o.parameter(15), 1);
            for (int group = 0; group < 4; group++) {
                boolean isThere = false;
                for (int i = 0; i < o.ground('k'); i++) {
                    isThere |= o.kept(i, 'c') == 3 && o.kept(i, 'b') == group;
                }
                Check.same("group " + group, isThere, group != off);
            }
            Check.doneAs(o, 0, 8, off, 1);
            Check.same("on again", o.isOn((char) ('0' + off)), true);
        }
    }

    /** Behind a reset: the tick at which it is started still counts as one that went by. */
    private static void scheduleAsItIsLookedAt() {
        Orbithouse o = Check.near();
        Check.doneAs(o, 0, 6, 0, 5, 0);
        Check.doneAs(o, 0, 6, 0, 6, 0);
        // T 4; entries for 5 and 6. A reset at 6, behind the schedule of 6.
        Check.same("two", o.parameter(7), 2);
        Check.doneAs(o, 0, 37);
        Check.same("T", o.parameter(0), 6);
        Check.same("both were LOST, off", o.parameter(15), 2);
        Orbithouse p = Check.near();
        for (int tick : new int[] {14, 15, 16, 17, 18}) {
            Check.doneAs(p, 0, 6, 0, tick, 0);
        }
        Check.same("T", p.parameter(0), 10);
        // A reset at 12, started at 16, looked at from 17 on.
        Check.doneAs(p, 0, 37);
        Check.same("none went by yet", p.parameter(7), 5);
        p.step(4);
        Check.same("runs", p.board(), 'r');
        Check.same("not looked at yet", p.parameter(7), 5);
        p.step(1);
        Check.same("14 to 16 went by, and 17 is off", p.parameter(7), 1);
        Check.same("LOST", p.parameter(15), 4);
        p.step(1);
        Check.same("LOST", p.parameter(15), 5);
    }

    private static void eventsOfSixteen() {
        Orbithouse o = Check.near();
        for (int i = 0; i < 16; i++) {
            Check.doneAs(o, 0, 11, i, 0);
            for (int j = 0; j < 16; j++) {
                Check.same("event " + j, o.event(j, 't'), j > i ? 1 : 0);
            }
        }
        int made = o.world('n');
        Check.doneAs(o, 1, 99);
        Check.same("the end alone", o.world('n'), made + 1);
        for (int i = 15; i >= 0; i--) {
            Check.doneAs(o, 0, 11, i, 1);
            Check.same("event " + i, o.event(i, 't'), 1);
        }
        Check.doneAs(o, 1, 99);
        Check.same("two reports", o.world('n'), made + 1 + 16 + 2);
    }

    private static void actionsOfTwelve() {
        Orbithouse o = Check.near();
        for (int i = 0; i < 16; i++) {
            Check.doneAs(o, 0, 12, i, i % 12);
            for (int j = 0; j < 16; j++) {
                Check.same("action of " + j, o.event(j, 'a'), j > i ? -1 : j % 12);
            }
        }
        Check.doneAs(o, 2, 12, 0, 12);
        Check.doneAs(o, 2, 12, 0, -2);
        Check.same("as it was", o.event(0, 'a'), 0);
        // Template 11 by event 0, and none.
        Check.doneAs(o, 0, 4, 11, 31, 1, 63, 1);
        Check.doneAs(o, 0, 12, 0, 11);
        Check.doneAs(o, 0, 13, 1);
        Check.doneAs(o, 1, 99);
        o.step(4);
        Check.report("template 11", o, 3, 1, 63, 0);
        Check.doneAs(o, 0, 12, 0, -1);
        int made = o.world('n');
        Check.doneAs(o, 1, 99);
        o.step(2);
        Check.same("none", o.world('n'), made + 2);
        Check.same("none", o.event(0, 'a'), -1);
        // Room for the action, and none: eight come together, and the first one fails.
        for (int ahead = 8; ahead <= 9; ahead++) {
            Orbithouse p = Check.near();
            Check.doneAs(p, 0, 12, 0, 0);
            Check.doneAs(p, 0, 13, 1);
            Check.doneAs(p, 0, 7, 1);
            Check.doneAs(p, 0, 21, 0, 0, 0, 19, 1, 0);
            Check.doneAs(p, 0, 24, 0, 1);
            p.step(20 - ahead - p.parameter(0));
            Check.together(p, Check.times(ahead - 1, 0));
            Check.same("T", p.parameter(0), 19);
            p.step(1);
            // T 20: the event of the monitor finds 7, or 8, in the queue.
            Check.same("LOST", p.parameter(15), ahead - 8);
            Check.same("the queue", p.parameter(6), 7);
            Check.same("the last of it", p.queueAt(6, 'f'), ahead == 8 ? 'a' : 'g');
        }
    }

    private static void levels() {
        Orbithouse o = Check.near();
        for (int level = 1; level <= 3; level++) {
            Check.doneAs(o, 0, 41, level, 0);
            for (int other = 1; other <= 3; other++) {
                Check.same("level " + other, o.isOn("?lmn".charAt(other)), other > level);
            }
        }
        for (int level = 1; level <= 3; level++) {
            Check.doneAs(o, 0, 41, level, 1);
            for (int other = 1; other <= 3; other++) {
                Check.same("level " + other, o.isOn("?lmn".charAt(other)), other <= level);
            }
        }
    }

    /** "1 with x 14 and y 1" alone. */
    private static void payloadInSafe() {
        Orbithouse o = Check.near();
        Check.doneAs(o, 0, 1, 14, 1);
        Check.doneAs(o, 0, 3, 0);
        Check.same("off in SAFE", o.unit(14, 'o'), 0);
        Check.doneAs(o, 3, 1, 14, 1);
        Check.doneAs(o, 0, 1, 14, 0);
        Check.doneAs(o, 0, 1, 13, 1);
        Check.doneAs(o, 0, 2, 14, 1);
        Check.doneAs(o, 3, 1, 14, 1);
        Check.doneAs(o, 0, 2, 14, 0);
        o.step(20);
        Check.doneAs(o, 0, 3, 1);
        Check.doneAs(o, 0, 1, 14, 1);
        Check.same("on behind SAFE", o.unit(14, 'o'), 1);
    }
}
