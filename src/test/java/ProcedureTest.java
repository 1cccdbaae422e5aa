/** Part 6 and kinds 14 to 18: procedures. */
public final class ProcedureTest {
    public static void main(String[] args) {
        rowsAreTold();
        rowAfterRow();
        waitsTicks();
        waitsForParameter();
        jumps();
        numbersAreTakenModulo();
        commandAndItsEnd();
        noRoom();
        limit();
        limitWhileWaiting();
        held();
        heldWhileCommandEnds();
        stopped();
        stopsItself();
        startedAnewWhileOldCommandWaits();
        resetEndsThem();
        safeEndsThem();
        byNumbers();
        Check.finish("ProcedureTest");
    }

    private static void row(Orbithouse o, int p, int at, int operation, int... uvw) {
        int[] n = java.util.Arrays.copyOf(uvw, 3);
        Check.doneAs(o, 0, 14, p, at, operation, n[0], n[1], n[2]);
    }

    private static void look(Orbithouse o, int p, String what, int... due) {
        for (int i = 0; i < due.length; i++) {
            Check.same("T " + o.parameter(0) + ", procedure " + p + " " + what.charAt(i),
                    o.procedure(p, what.charAt(i)), due[i]);
        }
    }

    private static void registers(Orbithouse o, int p, int... due) {
        for (int i = 0; i < due.length; i++) {
            Check.same("T " + o.parameter(0) + ", register " + i, o.register(p, i), due[i]);
        }
    }

    private static void rowsAreTold() {
        Orbithouse o = Check.near();
        Check.doneAs(o, 4, 15, 2, 9);
        Check.doneAs(o, 4, 14, 2, 1, 0, 0, 0, 0);
        look(o, 2, "sn", 0, 0);
        for (int i = 0; i < 12; i++) {
            row(o, 2, i, i % 10, i, -i, 3 * i);
        }
        look(o, 2, "snrtle", 1, 12, 0, 0, 0, -1);
        for (int i = 0; i < 12; i++) {
            int[] due = {i % 10, i, -i, 3 * i};
            for (int j = 0; j < 4; j++) {
                Check.same("row " + i, o.rowOf(2, i, j), due[j]);
            }
        }
        row(o, 2, 5, 1, 77, 78, 79);
        look(o, 2, "n", 12);
        Check.same("told anew", o.rowOf(2, 5, 1), 77);
        Check.same("the next one stays", o.rowOf(2, 6, 1), 6);
        Check.doneAs(o, 0, 18, 2);
        look(o, 2, "sn", 0, 0);
        Check.doneAs(o, 0, 18, 2);
        Check.doneAs(o, 4, 17, 2);
        Check.doneAs(o, 4, 16, 2, 1);
        Check.doneAs(o, 4, 16, 2, 0);
    }

    private static void rowAfterRow() {
        Orbithouse o = Check.near();
        row(o, 1, 0, 3, 0, 5);
        row(o, 1, 1, 4, 0, -7);
        row(o, 1, 2, 5, 1, 2);
        row(o, 1, 3, 9, 12, 0);
        Check.doneAs(o, 0, 15, 1, 50);
        look(o, 1, "srntle", 2, 0, 4, 0, 50, -1);
        Check.same("running", o.parameter(21), 1);
        o.step(1);
        registers(o, 1, 5, 0, 0, 0);
        look(o, 1, "srt", 2, 1, 1);
        o.step(1);
        registers(o, 1, -2, 0, 0, 0);
        o.step(1);
        registers(o, 1, -2, o.world('b'), 0, 0);
        o.step(1);
        look(o, 1, "srt", 2, 4, 4);
        Check.same("event 12", o.storeAt(0, o.store(0, 'n') - 1), o.world('n') - 1);
        o.step(1);
        look(o, 1, "srntle", 1, 4, 4, 5, 50, 0);
        Check.same("running", o.parameter(21), 0);
        o.step(2);
        Check.report("event 12", o, 1, 12, -2);
        Check.report("end", o, 5, 1, 0);
        registers(o, 1, -2, o.register(1, 1), 0, 0);
        // Started again, its registers are 0, its last end stays.
        Check.doneAs(o, 0, 15, 1, 400);
        registers(o, 1, 0, 0, 0, 0);
        look(o, 1, "srntle", 2, 0, 4, 0, 400, 0);
    }

    private static void waitsTicks() {
        for (int ticks : new int[] {-5, 0, 1, 2, 3}) {
            Orbithouse o = Check.near();
            row(o, 0, 0, 1, ticks);
            row(o, 0, 1, 0, 91);
            Check.doneAs(o, 0, 15, 0, 50);
            int due = Math.max(1, ticks);
            for (int i = 1; i <= due; i++) {
                look(o, 0, "r", 0);
                o.step(1);
            }
            look(o, 0, "rs", 1, 2);
            o.step(1);
            look(o, 0, "se", 1, 1);
            o.step(2);
            Check.report("end", o, 5, 0, 1);
        }
    }

    private static void waitsForParameter() {
        Orbithouse o = Check.near();
        row(o, 0, 0, 2, 0, 16, 9);
        row(o, 0, 1, 2, 24, 99, 3);
        row(o, 0, 2, 2, -24, 20, -1);
        row(o, 0, 3, 2, 0, 21, 5);
        row(o, 0, 4, 2, 0, 0, 0);
        Check.same("T", o.parameter(0), 10);
        Check.doneAs(o, 0, 15, 0, 50);
        o.step(3);
        look(o, 0, "r", 0);
        registers(o, 0, 0, 0, 0, 0);
        o.step(1);
        // T 16 is reached.
        look(o, 0, "r", 1);
        registers(o, 0, 0, 0, 0, 1);
        o.step(2);
        look(o, 0, "r", 1);
        o.step(1);
        // Three ticks are over.
        look(o, 0, "r", 2);
        registers(o, 0, 0, 0, 0, 0);
        o.step(1);
        // T 20, one tick at least.
        look(o, 0, "r", 3);
        registers(o, 0, 0, 0, 0, 1);
        o.step(1);
        look(o, 0, "r", 4);
        o.step(1);
        look(o, 0, "rt", 5, 10);
        registers(o, 0, 0, 0, 0, 1);
        o.step(1);
        look(o, 0, "se", 1, 0);
    }

    private static void jumps() {
        Orbithouse o = Check.near();
        row(o, 3, 0, 4, 2, 1);
        row(o, 3, 1, 6, 2, 3, 0);
        row(o, 3, 2, 6, 2, 3, 0);
        row(o, 3, 3, 7, 5);
        row(o, 3, 4, 0, 33);
        row(o, 3, 5, 7, -2);
        Check.doneAs(o, 0, 15, 3, 50);
        int[] rows = {1, 0, 1, 0, 1, 2, 3, 5, 5};
        for (int due : rows) {
            o.step(1);
            look(o, 3, "r", due);
        }
        registers(o, 3, 0, 0, 3, 0);
        Check.doneAs(o, 0, 17, 3);
        look(o, 3, "re", 5, 97);
        // A row is taken modulo 7: 13 is 6, at which it ends.
        row(o, 3, 5, 7, 13);
        row(o, 3, 0, 7, -2);
        Check.doneAs(o, 0, 15, 3, 50);
        o.step(1);
        look(o, 3, "r", 5);
        o.step(1);
        look(o, 3, "sr", 2, 6);
        o.step(1);
        look(o, 3, "sre", 1, 6, 0);
    }

    private static void numbersAreTakenModulo() {
        Orbithouse o = Check.near();
        row(o, 0, 0, 3, -1, 9);
        row(o, 0, 1, 4, 7, 1);
        row(o, 0, 2, 5, 6, -23);
        row(o, 0, 3, 3, Integer.MIN_VALUE, 4);
        row(o, 0, 4, 6, 3, 11, -1);
        row(o, 0, 5, 0, 5);
        row(o, 0, 6, 9, -1, -1);
        row(o, 0, 7, 0, -1);
        Check.doneAs(o, 0, 15, 0, 50);
        o.step(4);
        registers(o, 0, 4, 0, 1, 10);
        o.step(1);
        // Row -1 modulo 9 is 8.
        look(o, 0, "r", 8);
        o.step(1);
        look(o, 0, "e", 0);
        row(o, 0, 4, 7, 6);
        Check.doneAs(o, 0, 15, 0, 50);
        o.step(9);
        look(o, 0, "se", 1, 89);
        Check.report("event 15 with register 3", o, 1, 15, 10);
        row(o, 0, 0, 0, Integer.MIN_VALUE);
        Check.doneAs(o, 0, 15, 0, 50);
        o.step(1);
        look(o, 0, "e", Math.floorMod(Integer.MIN_VALUE, 90));
        row(o, 0, 0, 3, 1, Integer.MAX_VALUE);
        row(o, 0, 1, 4, 1, 1);
        Check.doneAs(o, 0, 15, 0, 50);
        o.step(2);
        registers(o, 0, 0, Integer.MIN_VALUE);
    }

    private static void commandAndItsEnd() {
        Orbithouse o = Check.near();
        Check.doneAs(o, 0, 4, 11, 31, 9, 0, 1);
        row(o, 0, 0, 8, -1);
        row(o, 0, 1, 5, 1, 6);
        row(o, 0, 2, 8, 12);
        row(o, 0, 3, 5, 2, 0);
        Check.doneAs(o, 0, 15, 0, 50);
        o.step(1);
        // Template 11 is out of range; its end comes in the same tick, behind procedures.
        look(o, 0, "r", 1);
        registers(o, 0, 0, 0, 0, 2);
        o.step(2);
        look(o, 0, "r", 3);
        registers(o, 0, 0, 0, 0, 0);
        o.step(3);
        look(o, 0, "se", 1, 0);
        Check.report("by the procedure", o, 0, 2, -1);
    }

    /** Eight commands arrive together at T 10 of the test; what is pushed in that tick finds no room. */
    private static void noRoom() {
        Orbithouse o = Check.near();
        row(o, 0, 0, 1, 9);
        row(o, 0, 1, 8, 0);
        row(o, 0, 2, 8, 0);
        Check.doneAs(o, 0, 15, 0, 50);
        for (int i = 0; i < 8; i++) {
            Check.tellFast(o, 0);
        }
        for (int i = 0; i < 8; i++) {
            o.link(true, 9 - i, 0, 0, 0, 0);
            o.step(1);
        }
        o.step(1);
        look(o, 0, "r", 1);
        o.step(1);
        look(o, 0, "r", 2);
        registers(o, 0, 0, 0, 0, 9);
        Check.same("LOST", o.parameter(15), 1);
        Check.same("queue", o.parameter(6), 7);
        o.step(1);
        Check.same("by a procedure", o.queueAt(6, 'f'), 'p');
        look(o, 0, "rs", 2, 2);
        o.step(6);
        look(o, 0, "r", 2);
        registers(o, 0, 0, 0, 0, 9);
        o.step(1);
        look(o, 0, "r", 3);
        registers(o, 0, 0, 0, 0, 0);
    }

    private static void limit() {
        Orbithouse o = Check.near();
        row(o, 2, 0, 1, 1000);
        Check.doneAs(o, 0, 15, 2, 3);
        o.step(3);
        look(o, 2, "stle", 2, 3, 3, -1);
        o.step(1);
        look(o, 2, "srtle", 1, 0, 4, 3, 96);
        o.step(3);
        Check.report("end", o, 5, 2, 96);
        Check.report("event 8", o, 1, 8, 2);
        Check.same("end ahead of the event", o.kept(Check.latest(o, 5, 2), 'n') + 1, o.kept(Check.latest(o, 1, 8), 'n'));
        // As many ticks as its limit are enough for its last row, but the end comes a tick later.
        Orbithouse p = Check.near();
        row(p, 2, 0, 3, 0, 1);
        Check.doneAs(p, 0, 15, 2, 1);
        p.step(2);
        look(p, 2, "e", 96);
        Check.doneAs(p, 0, 15, 2, 2);
        p.step(2);
        look(p, 2, "e", 0);
    }

    private static void limitWhileWaiting() {
        Orbithouse o = Check.near();
        row(o, 0, 0, 1, 9);
        row(o, 0, 1, 8, 0);
        Check.doneAs(o, 0, 15, 0, 10);
        for (int i = 0; i < 8; i++) {
            Check.tellFast(o, 0);
        }
        for (int i = 0; i < 7; i++) {
            o.link(true, 9 - i, 0, 0, 0, 0);
            o.step(1);
        }
        o.step(3);
        look(o, 0, "rst", 1, 2, 10);
        o.step(1);
        look(o, 0, "rste", 1, 1, 11, 96);
        o.step(10);
        registers(o, 0, 0, 0, 0, 0);
        look(o, 0, "rste", 1, 1, 11, 96);
    }

    private static void held() {
        Orbithouse o = Check.near();
        row(o, 0, 0, 1, 100);
        Check.doneAs(o, 4, 16, 0, 1);
        Check.doneAs(o, 0, 15, 0, 400);
        Check.doneAs(o, 4, 15, 0, 50);
        Check.doneAs(o, 4, 14, 0, 0, 0);
        Check.doneAs(o, 4, 18, 0);
        Check.doneAs(o, 4, 16, 0, 0);
        Check.doneAs(o, 0, 17, 0);
        row(o, 0, 0, 1, 5);
        Check.doneAs(o, 0, 15, 0, 50);
        Check.doneAs(o, 4, 16, 0, 0);
        Check.doneAs(o, 0, 16, 0, 1);
        look(o, 0, "srt", 3, 0, 4);
        Check.same("running", o.parameter(21), 0);
        Check.doneAs(o, 4, 16, 0, 1);
        Check.doneAs(o, 4, 15, 0, 50);
        Check.doneAs(o, 4, 14, 0, 0, 0);
        Check.doneAs(o, 4, 18, 0);
        o.step(60);
        look(o, 0, "srt", 3, 0, 4);
        Check.doneAs(o, 0, 16, 0, 0);
        look(o, 0, "srt", 2, 0, 4);
        o.step(1);
        // Five ticks at its row, with those ahead.
        look(o, 0, "srt", 2, 1, 5);
        o.step(1);
        look(o, 0, "se", 1, 0);
    }

    private static void heldWhileCommandEnds() {
        Orbithouse o = Check.near();
        Check.doneAs(o, 0, 4, 1, 31, 9);
        row(o, 0, 0, 1, 9);
        row(o, 0, 1, 8, 1);
        row(o, 0, 2, 3, 0, 1);
        Check.doneAs(o, 0, 15, 0, 50);
        o.step(7);
        Check.tellFast(o, 0);
        Check.tellFast(o, 16, 0, 1);
        o.link(true, 2, 0, 0, 0, 0);
        o.step(1);
        o.link(true, 1, 0, 0, 0, 0);
        o.step(2);
        // Its command stands behind the one that holds it.
        look(o, 0, "srt", 2, 1, 10);
        Check.same("queue", o.parameter(6), 2);
        o.step(1);
        look(o, 0, "srt", 3, 1, 11);
        registers(o, 0, 0, 0, 0, 0);
        o.step(1);
        look(o, 0, "srt", 3, 2, 11);
        registers(o, 0, 0, 0, 0, 2);
        o.step(10);
        look(o, 0, "srt", 3, 2, 11);
        Check.doneAs(o, 0, 16, 0, 0);
        o.step(1);
        look(o, 0, "srt", 2, 3, 12);
        registers(o, 0, 1, 0, 0, 2);
    }

    private static void stopped() {
        Orbithouse o = Check.near();
        row(o, 0, 0, 1, 99);
        Check.doneAs(o, 0, 15, 0, 50);
        Check.doneAs(o, 0, 17, 0);
        look(o, 0, "snrte", 1, 1, 0, 2, 97);
        Check.doneAs(o, 4, 17, 0);
        Check.report("end", o, 5, 0, 97);
        Check.doneAs(o, 0, 15, 0, 50);
        Check.doneAs(o, 0, 16, 0, 1);
        Check.doneAs(o, 0, 17, 0);
        look(o, 0, "se", 1, 97);
        o.step(3);
        Check.same("twice", Check.count(o, 5, 0), 2);
    }

    private static void stopsItself() {
        Orbithouse o = Check.near();
        Check.doneAs(o, 0, 4, 0, 17, 1);
        row(o, 1, 0, 8, 0);
        row(o, 1, 1, 3, 0, 1);
        Check.doneAs(o, 0, 15, 1, 50);
        o.step(1);
        look(o, 1, "sre", 1, 0, 97);
        registers(o, 1, 0, 0, 0, 0);
        o.step(5);
        registers(o, 1, 0, 0, 0, 0);
        // One that stops another one gets its end.
        row(o, 2, 0, 1, 90);
        Check.doneAs(o, 0, 15, 2, 50);
        Check.doneAs(o, 0, 4, 0, 17, 2);
        Check.doneAs(o, 0, 15, 1, 50);
        o.step(1);
        look(o, 2, "se", 1, 97);
        look(o, 1, "sr", 2, 1);
    }

    private static void startedAnewWhileOldCommandWaits() {
        Orbithouse o = Check.near();
        Check.doneAs(o, 0, 4, 0, 31, 9);
        row(o, 0, 0, 1, 8);
        row(o, 0, 1, 8, 0);
        Check.doneAs(o, 0, 15, 0, 400);
        // At the tick of row 1 the queue has stop, start, and four more ahead of its command.
        int[] kinds = {0, 17, 15, 0, 0, 0};
        for (int kind : kinds) {
            Check.tellFast(o, kind, 0, 400);
        }
        for (int i = 0; i < 6; i++) {
            o.link(true, 8 - i, 0, 0, 0, 0);
            o.step(1);
        }
        o.step(3);
        Check.same("its command waits", o.queueAt(o.parameter(6) - 1, 'f'), 'p');
        look(o, 0, "sr", 2, 1);
        o.step(1);
        look(o, 0, "sre", 1, 1, 97);
        o.step(1);
        look(o, 0, "srt", 2, 0, 0);
        o.step(5);
        // The old command has been done; the new run does not hear of it.
        Check.same("queue", o.parameter(6), 0);
        look(o, 0, "srt", 2, 0, 5);
        registers(o, 0, 0, 0, 0, 0);
    }

    private static void resetEndsThem() {
        Orbithouse o = Check.near();
        row(o, 0, 0, 1, 99);
        row(o, 1, 0, 1, 99);
        row(o, 2, 0, 1, 99);
        Check.doneAs(o, 0, 15, 0, 50);
        Check.doneAs(o, 0, 15, 1, 50);
        Check.doneAs(o, 0, 16, 1, 1);
        Check.doneAs(o, 0, 37);
        look(o, 0, "se", 1, 98);
        look(o, 1, "se", 1, 98);
        look(o, 2, "se", 1, -1);
        o.step(12);
        Check.same("no report", Check.count(o, 5, 0) + Check.count(o, 5, 1), 0);
    }

    private static void safeEndsThem() {
        Orbithouse o = Check.near();
        for (int i = 0; i < 4; i++) {
            row(o, i, 0, 1, 99);
        }
        Check.doneAs(o, 0, 15, 3, 50);
        Check.doneAs(o, 0, 15, 1, 50);
        Check.doneAs(o, 0, 15, 0, 50);
        Check.doneAs(o, 0, 16, 1, 1);
        int made = o.world('n');
        Check.doneAs(o, 0, 3, 0);
        for (int i = 0; i < 4; i++) {
            look(o, i, "se", 1, i == 2 ? -1 : 99);
        }
        o.step(12);
        int[] due = {0, 1, 3};
        for (int i = 0; i < 3; i++) {
            Check.report("end", o, 5, due[i], 99);
            Check.same("by numbers", o.kept(Check.latest(o, 5, due[i]), 'n'), made + i);
        }
        Check.same("then event 2", o.kept(Check.latest(o, 1, 2), 'n'), made + 3);
    }

    private static void byNumbers() {
        Orbithouse o = Check.near();
        for (int i = 3; i >= 0; i--) {
            row(o, i, 0, 1, 2 * i + 2);
            row(o, i, 1, 0, i);
        }
        for (int i = 3; i >= 0; i--) {
            Check.doneAs(o, 0, 15, i, 50);
        }
        // All end in the same tick.
        o.step(10);
        int n = o.kept(Check.latest(o, 5, 0), 'n');
        for (int i = 1; i < 4; i++) {
            Check.report("end", o, 5, i, i);
            Check.same("by numbers", o.kept(Check.latest(o, 5, i), 'n'), n + i);
        }
    }
}
