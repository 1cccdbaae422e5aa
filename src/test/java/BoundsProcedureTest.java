/** The boundaries of part 6: 12 rows, ticks and limits, what is taken modulo, waits, and the end of the rows. */
public final class BoundsProcedureTest {
    private static final int LOW = Integer.MIN_VALUE;
    private static final int HIGH = Integer.MAX_VALUE;

    public static void main(String[] args) {
        rowBehindTheLast();
        twelveRows();
        staleRowsAreNotDone();
        limits();
        endIsTakenModulo();
        waiting();
        waitingIsCountedAnew();
        waitingForParameter();
        waitingForParameterThatComes();
        registersAreTakenModulo();
        parametersAreTakenModulo();
        additionGoesRound();
        lessIsNotEqual();
        rowsAreTakenModulo();
        templatesAreTakenModulo();
        eventsAreTakenModulo();
        roomForItsCommand();
        endOfItsCommand();
        fourOfThem();
        heldKeepsItsTicks();
        startedAnew();
        nothingWithoutStart();
        Check.finish("BoundsProcedureTest");
    }

    private static void row(Orbithouse o, int p, int at, int operation, int... uvw) {
        int[] n = java.util.Arrays.copyOf(uvw, 3);
        Check.doneAs(o, 0, 14, p, at, operation, n[0], n[1], n[2]);
    }

    private static void look(Orbithouse o, int p, String what, int... due) {
        for (int i = 0; i < due.length; i++) {
            Check.same("T " + o.parameter(0) + ", procedure " + p + " " + what.charAt(i),
                    o.procedure(p, what.charAt(i)), due[i]);
        }
    }

    private static void registers(Orbithouse o, int p, int... due) {
        for (int i = 0; i < due.length; i++) {
            Check.same("T " + o.parameter(0) + ", register " + i, o.register(p, i), due[i]);
        }
    }

    private static Orbithouse started(int limit, int[]... rows) {
        Orbithouse o = Check.near();
        for (int i = 0; i < rows.length; i++) {
            row(o, 0, i, rows[i][0], java.util.Arrays.copyOfRange(rows[i], 1, rows[i].length));
        }
        Check.doneAs(o, 0, 15, 0, limit);
        return o;
    }

    /** 14: "fails if y is above how many rows it has": as many is the next one. */
    private static void rowBehindTheLast() {
        for (int rows = 0; rows < 12; rows++) {
            Orbithouse o = Check.near();
            for (int i = 0; i < rows; i++) {
                row(o, 3, i, 1, i);
            }
            if (rows < 11) {
                Check.doneAs(o, 4, 14, 3, rows + 1, 1, 5);
            }
            Check.doneAs(o, rows < 11 ? 4 : 0, 14, 3, 11, 1, 5);
            look(o, 3, "n", rows < 11 ? rows : 12);
            int count = o.procedure(3, 'n');
            Check.refused("no row", IndexOutOfBoundsException.class, o, () -> o.rowOf(3, count, 0));
            Check.doneAs(o, 0, 14, 3, rows, 2, 7, 8, 9);
            look(o, 3, "n", rows + 1);
            Check.same("w of it", o.rowOf(3, rows, 3), 9);
        }
    }

    /** "At most 12 rows", all of them done, and the end behind the 12th. */
    private static void twelveRows() {
        int[][] rows = new int[12][];
        for (int i = 0; i < 12; i++) {
            rows[i] = new int[] {4, i % 4, 1 + i};
        }
        Orbithouse o = started(13, rows);
        Check.doneAs(o, 2, 14, 1, 12, 1, 5);
        o.step(9);
        look(o, 0, "srte", 2, 11, 11, -1);
        o.step(1);
        look(o, 0, "srte", 2, 12, 12, -1);
        registers(o, 0, 1 + 5 + 9, 2 + 6 + 10, 3 + 7 + 11, 4 + 8 + 12);
        o.step(1);
        look(o, 0, "srte", 1, 12, 13, 0);
        Check.same("sound", o.isSound(), true);
        Check.refused("a 13th", IndexOutOfBoundsException.class, o, () -> o.rowOf(0, 12, 0));
    }

    /** "If it is at the number of its rows": rows of an emptied procedure are no more there. */
    private static void staleRowsAreNotDone() {
        Orbithouse o = Check.near();
        for (int i = 0; i < 12; i++) {
            row(o, 0, i, 0, 33);
        }
        Check.doneAs(o, 0, 18, 0);
        look(o, 0, "sn", 0, 0);
        Check.doneAs(o, 4, 15, 0, 9);
        Check.doneAs(o, 4, 14, 0, 1, 0, 5);
        row(o, 0, 0, 3, 0, 5);
        Check.doneAs(o, 0, 15, 0, 9);
        o.step(1);
        look(o, 0, "sre", 2, 1, -1);
        o.step(1);
        look(o, 0, "srne", 1, 1, 1, 0);
        // Also by a jump: rows are taken modulo how many there are now, and 1.
        row(o, 0, 0, 7, 1);
        Check.doneAs(o, 0, 15, 0, 9);
        o.step(2);
        look(o, 0, "srte", 1, 1, 2, 0);
        row(o, 0, 0, 7, 2);
        Check.doneAs(o, 0, 15, 0, 9);
        o.step(9);
        look(o, 0, "srte", 2, 0, 9, 0);
        o.step(1);
        look(o, 0, "srte", 1, 0, 10, 96);
    }

    /** "A limit of y ticks, 1 to 400", "if they are above its limit". */
    private static void limits() {
        for (int limit : new int[] {1, 2, 399, 400}) {
            Orbithouse o = started(limit, new int[] {1, HIGH});
            look(o, 0, "stl", 2, 0, limit);
            Check.go(o, limit);
            look(o, 0, "srtle", 2, 0, limit, limit, -1);
            o.step(1);
            look(o, 0, "srtle", 1, 0, limit + 1, limit, 96);
            Check.same("running", o.parameter(21), 0);
            o.step(3);
            Check.report("its end", o, 5, 0, 96);
            Check.report("event 8", o, 1, 8, 0);
        }
        // What is done at the limit is still done: an end of its own, not 96.
        Orbithouse o = started(3, new int[] {3, 0, 1}, new int[] {3, 0, 2}, new int[] {0, 5});
        o.step(3);
        look(o, 0, "sre", 1, 2, 5);
        Orbithouse p = started(2, new int[] {3, 0, 1}, new int[] {3, 0, 2}, new int[] {0, 5});
        p.step(3);
        look(p, 0, "sre", 1, 2, 96);
        registers(p, 0, 2);
        Orbithouse q = started(2, new int[] {3, 0, 1}, new int[] {3, 0, 2});
        q.step(3);
        look(q, 0, "sre", 1, 2, 96);
    }

    /** "Its end is u modulo 90, 0 or more." */
    private static void endIsTakenModulo() {
        int[][] due = {{0, 0}, {1, 1}, {89, 89}, {90, 0}, {91, 1}, {-1, 89}, {-89, 1}, {-90, 0}, {-91, 89},
            {HIGH, HIGH % 90}, {LOW, 90 + LOW % 90}};
        for (int[] pair : due) {
            Orbithouse o = started(9, new int[] {0, pair[0]}, new int[] {0, 7});
            o.step(1);
            look(o, 0, "ste", 1, 1, pair[1]);
            o.step(2);
            Check.report("end of " + pair[0], o, 5, 0, pair[1]);
        }
    }

    /** "For u ticks, this one counted, one at least." */
    private static void waiting() {
        int[][] due = {{LOW, 1}, {-1, 1}, {0, 1}, {1, 1}, {2, 2}, {3, 3}, {40, 40}};
        for (int[] pair : due) {
            Orbithouse o = started(90, new int[] {3, 0, 1}, new int[] {1, pair[0]}, new int[] {3, 0, 2});
            o.step(1);
            Check.go(o, pair[1] - 1);
            look(o, 0, "rt", 1, pair[1]);
            o.step(1);
            look(o, 0, "rt", 2, pair[1] + 1);
            registers(o, 0, 1);
            o.step(1);
            registers(o, 0, 2);
        }
    }

    /** A row at which it comes to be again counts from 1. */
    private static void waitingIsCountedAnew() {
        Orbithouse o = started(90, new int[] {1, 3}, new int[] {7, 0});
        for (int i = 0; i < 5; i++) {
            for (int due : new int[] {0, 0, 1, 0}) {
                o.step(1);
                look(o, 0, "r", due);
            }
        }
        // Two rows that wait, one behind the other.
        Orbithouse p = started(90, new int[] {1, 2}, new int[] {1, 2}, new int[] {2, 0, HIGH, 2}, new int[] {1, 2});
        for (int due : new int[] {0, 1, 1, 2, 2, 3, 3, 4}) {
            p.step(1);
            look(p, 0, "r", due);
        }
    }

    /** "At least v, at most w ticks, this one counted, one at least": by a parameter that stays, 2 of the image. */
    private static void waitingForParameter() {
        int[][] cases = {{1, 9, 1, 1}, {2, 9, 1, 1}, {2, 0, 1, 1}, {2, LOW, 1, 1}, {3, 1, 1, 0}, {3, 0, 1, 0},
            {3, LOW, 1, 0}, {3, 2, 2, 0}, {3, 9, 9, 0}, {HIGH, 3, 3, 0}, {LOW, 3, 1, 1}};
        for (int[] c : cases) {
            Orbithouse o = started(90, new int[] {3, 3, 77}, new int[] {2, 22, c[0], c[1]}, new int[] {1, 9});
            o.step(1);
            Check.go(o, c[2] - 1);
            look(o, 0, "r", 1);
            registers(o, 0, 0, 0, 0, 77);
            o.step(1);
            look(o, 0, "r", 2);
            registers(o, 0, 0, 0, 0, c[3]);
        }
    }

    /** In the last tick it may still be so; then the register 3 is 1, not 0. */
    private static void waitingForParameterThatComes() {
        for (int ticks = 1; ticks <= 5; ticks++) {
            for (int late = 0; late < 2; late++) {
                // It starts at T 6: in the last of its ticks T is 6 and so many.
                Orbithouse o = started(90, new int[] {2, 0, 6 + ticks + late, ticks}, new int[] {1, 9});
                Check.same("T", o.parameter(0), 6);
                Check.go(o, ticks - 1);
                look(o, 0, "r", 0);
                o.step(1);
                look(o, 0, "r", 1);
                registers(o, 0, 0, 0, 0, 1 - late);
            }
        }
        Orbithouse o = started(90, new int[] {2, 0, 100, 3}, new int[] {1, 9});
        o.step(3);
        look(o, 0, "r", 1);
        registers(o, 0, 0, 0, 0, 0);
    }

    /** "A register is taken modulo 4". */
    private static void registersAreTakenModulo() {
        int[] some = {0, 1, 2, 3, 4, 7, 8, -1, -4, -5, HIGH, LOW};
        for (int number : some) {
            int due = Math.floorMod(number, 4);
            Orbithouse o = started(90, new int[] {3, number, 50}, new int[] {4, number, 5}, new int[] {9, 12, number},
                    new int[] {6, number, 56, 5}, new int[] {0, 1}, new int[] {5, number, 22});
            o.step(3);
            for (int i = 0; i < 4; i++) {
                Check.same("register " + i + " by " + number, o.register(0, i), i == due ? 55 : 0);
            }
            o.step(1);
            look(o, 0, "r", 5);
            o.step(1);
            Check.same("register by " + number, o.register(0, due), 2);
            Check.report("event 12", o, 1, 12, 55);
        }
    }

    /** "The parameter v modulo 24": 22 is the image, 23 SUN, 1 the mode. */
    private static void parametersAreTakenModulo() {
        int[][] due = {{22, 2}, {23, 1}, {24 + 1, 1}, {-1, 1}, {-2, 2}, {-23, 1}, {46, 2}, {-26, 2}, {24 * 5 + 22, 2}};
        for (int[] pair : due) {
            Orbithouse o = started(90, new int[] {5, 1, pair[0]}, new int[] {2, pair[0], pair[1], 1},
                    new int[] {2, pair[0], pair[1] + 1, 1});
            o.step(1);
            registers(o, 0, 0, pair[1], 0, 0);
            o.step(1);
            registers(o, 0, 0, pair[1], 0, 1);
            o.step(1);
            registers(o, 0, 0, pair[1], 0, 0);
        }
        // The least and the most: 16 (the row that is told at once) and 7 (entries).
        Check.same("modulo 24", Math.floorMod(LOW, 24), 16);
        Check.same("modulo 24", Math.floorMod(HIGH, 24), 7);
        Orbithouse o = Check.near();
        Check.doneAs(o, 0, 41, 1, 0);
        o.breakUnit(2, 'd');
        Check.doneAs(o, 0, 6, 0, 900, 0);
        row(o, 0, 0, 5, 0, HIGH);
        row(o, 0, 1, 5, 1, LOW);
        Check.doneAs(o, 0, 15, 0, 90);
        Check.same("reports wait", o.parameter(16), 4);
        o.step(2);
        registers(o, 0, 1, 4);
    }

    private static void additionGoesRound() {
        Orbithouse o = started(90, new int[] {3, 0, HIGH}, new int[] {4, 0, 1}, new int[] {4, 0, -1},
                new int[] {3, 1, LOW}, new int[] {4, 1, -1}, new int[] {4, 1, LOW});
        o.step(2);
        registers(o, 0, LOW);
        o.step(1);
        registers(o, 0, HIGH);
        o.step(2);
        registers(o, 0, HIGH, HIGH);
        o.step(1);
        registers(o, 0, HIGH, -1);
    }

    /** "If the register u is less than v". */
    private static void lessIsNotEqual() {
        int[][] cases = {{5, 4, 0}, {5, 5, 0}, {5, 6, 1}, {-1, 0, 1}, {0, 0, 0}, {LOW, LOW, 0}, {LOW, HIGH, 1},
            {HIGH, LOW, 0}, {HIGH, HIGH, 0}, {HIGH - 1, HIGH, 1}};
        for (int[] c : cases) {
            Orbithouse o = started(90, new int[] {3, 2, c[0]}, new int[] {6, 2, c[1], 3}, new int[] {1, 5},
                    new int[] {1, 5});
            o.step(2);
            look(o, 0, "r", c[2] == 1 ? 3 : 2);
        }
    }

    /** "A row modulo how many rows it has and 1": with 3 rows modulo 4, and the row 3 is its end. */
    private static void rowsAreTakenModulo() {
        int[][] due = {{0, 0}, {1, 1}, {2, 2}, {3, 3}, {4, 0}, {5, 1}, {7, 3}, {-1, 3}, {-2, 2}, {-4, 0}, {-5, 3},
            {HIGH, 3}, {LOW, 0}};
        for (int[] pair : due) {
            Orbithouse o = started(90, new int[] {7, pair[0]}, new int[] {7, pair[0]}, new int[] {6, 0, 1, pair[0]});
            o.step(1);
            look(o, 0, "sr", 2, pair[1]);
            o.step(1);
            look(o, 0, "se", pair[1] == 3 ? 1 : 2, pair[1] == 3 ? 0 : -1);
            Orbithouse p = started(90, new int[] {6, 0, 1, pair[0]}, new int[] {1, 9}, new int[] {1, 9});
            p.step(1);
            look(p, 0, "sr", 2, pair[1]);
        }
        // With 12 rows modulo 13.
        int[][] rows = Check.times(12, 7, -1);
        Orbithouse o = started(90, rows);
        o.step(1);
        look(o, 0, "sr", 2, 12);
        o.step(1);
        look(o, 0, "se", 1, 0);
        row(o, 0, 0, 7, 13 * 9 + 11);
        row(o, 0, 11, 7, 14);
        row(o, 0, 1, 0, 44);
        Check.doneAs(o, 0, 15, 0, 90);
        o.step(1);
        look(o, 0, "r", 11);
        o.step(1);
        look(o, 0, "r", 1);
        o.step(1);
        look(o, 0, "e", 44);
    }

    /** "The template u modulo 12". */
    private static void templatesAreTakenModulo() {
        int[][] due = {{0, 0}, {11, 11}, {12, 0}, {13, 1}, {-1, 11}, {-12, 0}, {-13, 11}, {HIGH, 7}, {LOW, 4}};
        for (int[] pair : due) {
            Orbithouse o = Check.near();
            Check.doneAs(o, 0, 4, pair[1], 31, 2, 60, 4);
            row(o, 0, 0, 8, pair[0]);
            Check.doneAs(o, 0, 15, 0, 9);
            o.step(3);
            Check.report("template " + pair[1], o, 3, 2, 60, 0, 0, 0, 0);
        }
    }

    /** "Event u modulo 16". */
    private static void eventsAreTakenModulo() {
        int[][] due = {{0, 0}, {7, 7}, {15, 15}, {16, 0}, {17, 1}, {-1, 15}, {-16, 0}, {-17, 15}, {HIGH, 15}, {LOW, 0}};
        for (int[] pair : due) {
            Orbithouse o = started(9, new int[] {3, 3, LOW}, new int[] {9, pair[0], -1});
            o.step(4);
            Check.report("event " + pair[1], o, 1, pair[1], LOW);
        }
    }

    /** "If there is no room, the register 3 becomes 9": 7 ahead leave room, 8 do not. */
    private static void roomForItsCommand() {
        for (int ahead = 7; ahead <= 8; ahead++) {
            Orbithouse o = started(400, new int[] {3, 3, 55}, new int[] {2, 0, 20, 400}, new int[] {3, 3, 55},
                    new int[] {8, 0}, new int[] {1, 50});
            // At T 20 it goes on, at T 21 it is at the row 2, and at T 22 its command is to come.
            o.step(22 - ahead - 1 - o.parameter(0));
            Check.together(o, Check.times(ahead, 0));
            Check.same("T", o.parameter(0), 21);
            look(o, 0, "r", 3);
            registers(o, 0, 0, 0, 0, 55);
            o.step(1);
            look(o, 0, "sr", 2, ahead == 8 ? 4 : 3);
            registers(o, 0, 0, 0, 0, ahead == 8 ? 9 : 55);
            Check.same("LOST", o.parameter(15), ahead == 8 ? 1 : 0);
            Check.same("the queue", o.parameter(6), 7);
            Check.same("the last of it", o.queueAt(6, 'f'), ahead == 8 ? 'g' : 'p');
            o.step(7);
            look(o, 0, "sr", 2, 4);
            registers(o, 0, 0, 0, 0, ahead == 8 ? 9 : 0);
        }
    }

    /** "As that ends, the register 3 becomes its end", whichever it is. */
    private static void endOfItsCommand() {
        int[][] cases = {{0, 0, 0}, {1, 15, 2}, {33, 2, 4}, {43, 0, 4}, {24, 0, 4}};
        for (int[] c : cases) {
            Orbithouse o = Check.near();
            Check.doneAs(o, 0, 4, 5, c[0], c[1]);
            row(o, 0, 0, 3, 3, 66);
            row(o, 0, 1, 8, 5);
            row(o, 0, 2, 1, 9);
            Check.doneAs(o, 0, 15, 0, 90);
            o.step(1);
            registers(o, 0, 0, 0, 0, 66);
            o.step(1);
            registers(o, 0, 0, 0, 0, c[2]);
            look(o, 0, "rt", 2, 2);
        }
    }

    private static void fourOfThem() {
        Orbithouse o = Check.near();
        for (int p = 0; p < 4; p++) {
            row(o, p, 0, 3, p, p + 10);
            row(o, p, 1, 1, 100);
        }
        for (int p = 0; p < 4; p++) {
            Check.same("running", o.parameter(21), p);
            Check.doneAs(o, 0, 15, p, 400);
        }
        o.step(1);
        Check.same("running", o.parameter(21), 4);
        for (int p = 0; p < 4; p++) {
            for (int i = 0; i < 4; i++) {
                Check.same("register", o.register(p, i), i == p ? p + 10 : 0);
            }
        }
        for (int p : new int[] {-1, 4, LOW, HIGH}) {
            Check.doneAs(o, 2, 15, p, 5);
            Check.doneAs(o, 2, 17, p);
        }
        Check.doneAs(o, 0, 16, 3, 1);
        Check.same("running", o.parameter(21), 3);
        Check.doneAs(o, 0, 17, 0);
        Check.same("running", o.parameter(21), 2);
    }

    /** "Its ticks stay, and how long it was at its row." */
    private static void heldKeepsItsTicks() {
        Orbithouse o = started(12, new int[] {1, 8}, new int[] {1, 100});
        o.step(1);
        // It is held in its third tick, behind what it does.
        Check.doneAs(o, 0, 16, 0, 1);
        look(o, 0, "srt", 3, 0, 3);
        o.step(100);
        look(o, 0, "srt", 3, 0, 3);
        Check.doneAs(o, 0, 16, 0, 0);
        look(o, 0, "srt", 2, 0, 3);
        o.step(4);
        look(o, 0, "srt", 2, 0, 7);
        o.step(1);
        look(o, 0, "srt", 2, 1, 8);
        o.step(4);
        look(o, 0, "srte", 2, 1, 12, -1);
        o.step(1);
        look(o, 0, "srte", 1, 1, 13, 96);
    }

    private static void startedAnew() {
        Orbithouse o = started(5, new int[] {3, 0, 1}, new int[] {3, 3, 2}, new int[] {1, 100});
        o.step(6);
        look(o, 0, "srtle", 1, 2, 6, 5, 96);
        registers(o, 0, 1, 0, 0, 2);
        Check.doneAs(o, 0, 15, 0, 7);
        look(o, 0, "srtle", 2, 0, 0, 7, 96);
        registers(o, 0, 0, 0, 0, 0);
        o.step(7);
        look(o, 0, "srtle", 2, 2, 7, 7, 96);
        o.step(1);
        look(o, 0, "srtle", 1, 2, 8, 7, 96);
        // Without rows it keeps what it was.
        Check.doneAs(o, 0, 18, 0);
        look(o, 0, "srntle", 0, 2, 0, 8, 7, 96);
        registers(o, 0, 1, 0, 0, 2);
    }

    private static void nothingWithoutStart() {
        Orbithouse o = Check.near();
        row(o, 1, 0, 3, 0, 1);
        o.step(10);
        look(o, 1, "srntle", 1, 0, 1, 0, 0, -1);
        registers(o, 1, 0, 0, 0, 0);
        Check.refused("no register", IndexOutOfBoundsException.class, o, () -> o.register(1, 4));
        Check.refused("no register", IndexOutOfBoundsException.class, o, () -> o.register(1, -1));
        Check.refused("no number", IndexOutOfBoundsException.class, o, () -> o.rowOf(1, 0, 4));
        Check.same("the last number", o.rowOf(1, 0, 3), 0);
    }
}
