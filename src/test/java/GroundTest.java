/** Part 3: the receiver and the ground; promises 6 to 13, 17 and 24. */
public final class GroundTest {
    public static void main(String[] args) {
        windowIsKept();
        timerAndGivingUp();
        control();
        controlGivenUp();
        beginWaitsTwentyTicks();
        lostFrameComesAgain();
        againHasTenTicks();
        farAheadLocks();
        farBehindLocks();
        waitIsHeeded();
        waitWhileHanging();
        oldWordIsNothing();
        passAlone();
        receivers();
        fastAheadOfOrder();
        numbersGoRound();
        turnsGoRound();
        bentUpIsNothing();
        unlockingBeginsAnew();
        controlEndsWaiting();
        Check.finish("GroundTest");
    }

    private static void deaf(Orbithouse o, boolean is) {
        o.breakUnit(0, is ? 'd' : 'g');
        o.breakUnit(1, is ? 'd' : 'g');
    }

    private static void ground(Orbithouse o, String what, int... due) {
        for (int i = 0; i < due.length; i++) {
            Check.same("T " + o.parameter(0) + ", ground " + what.charAt(i), o.ground(what.charAt(i)), due[i]);
        }
    }

    private static void receiver(Orbithouse o, String what, int... due) {
        for (int i = 0; i < due.length; i++) {
            Check.same("T " + o.parameter(0) + ", receiver " + what.charAt(i), o.receiver(what.charAt(i)), due[i]);
        }
    }

    private static void windowIsKept() {
        Orbithouse o = Check.near();
        o.link(true, 9, 0, 0, 0, 0);
        o.link(false, 9, 0, 0, 0, 0);
        o.window(2, 60, 3);
        for (int i = 0; i < 3; i++) {
            Check.tellInOrder(o, 0);
        }
        o.step(1);
        ground(o, "wsnuc", 2, 1, 1, 1, 60);
        o.step(1);
        ground(o, "wsnuc", 1, 2, 2, 2, 60);
        o.step(7);
        ground(o, "wsnuc", 1, 2, 2, 2, 53);
        receiver(o, "n", 0);
        o.step(1);
        receiver(o, "n", 1);
        o.step(1);
        receiver(o, "n", 2);
        o.step(7);
        ground(o, "wsc", 1, 2, 44);
        // The word of T 10 arrives: the window has room.
        o.step(1);
        ground(o, "wsnuc", 0, 2, 3, 3, 60);
        Check.same("first of SENT", o.sentAt(0, 'n'), 1);
        Check.same("its ORDER", o.sentAt(0, 'o'), 1);
        Check.same("second of SENT", o.sentAt(1, 'n'), 2);
        o.step(1);
        ground(o, "s", 1);
        o.step(20);
        ground(o, "sr", 0, 0);
        receiver(o, "n", 3);
    }

    private static void timerAndGivingUp() {
        Orbithouse o = Check.near();
        deaf(o, true);
        o.window(5, 5, 2);
        Check.tellInOrder(o, 0);
        o.step(1);
        ground(o, "cru", 5, 0, 1);
        for (int t = 2; t <= 5; t++) {
            o.step(1);
            ground(o, "crum", 6 - t, 0, 1, 0);
        }
        o.step(1);
        ground(o, "cru", 5, 1, 2);
        o.step(5);
        ground(o, "cru", 5, 2, 3);
        o.step(4);
        ground(o, "cru", 1, 2, 3);
        Check.same("still active", o.state(), 'a');
        o.step(1);
        ground(o, "crusm", 0, 3, 3, 1, 0);
        Check.same("given up", o.state(), 's');
        o.step(5);
        ground(o, "crus", 0, 3, 3, 1);
        deaf(o, false);
        Check.refused("begin when given up", IllegalStateException.class, o, () -> o.begin(0));
        Check.refused("unlock when given up", IllegalStateException.class, o, o::unlock);
        Check.same("resume", o.resume(), 1);
        Check.same("active", o.state(), 'a');
        ground(o, "crum", 0, 0, 3, 1);
        Check.refused("resume twice", IllegalStateException.class, o, o::resume);
        o.step(1);
        ground(o, "crum", 5, 0, 4, 0);
        o.step(2);
        ground(o, "sr", 0, 0);
        Check.same("done", o.endOf(0), 0);
    }

    private static void control() {
        Orbithouse o = Check.near();
        o.window(5, 20, 3);
        Check.same("begin", o.begin(10), 1);
        ground(o, "nt", 10, 1);
        int order = Check.tellInOrder(o, 0);
        int fast = Check.tellFast(o, 0);
        o.step(1);
        ground(o, "ucwf", 1, 20, 1, 1);
        receiver(o, "nt", 0, 0);
        o.step(1);
        receiver(o, "nt", 10, 1);
        Check.same("not told yet", o.state(), 'c');
        ground(o, "ucwf", 2, 19, 1, 0);
        o.step(1);
        Check.same("told", o.state(), 'a');
        Check.same("fast one", o.endOf(fast), 0);
        ground(o, "uswnc", 3, 1, 0, 11, 20);
        Check.same("number", o.sentAt(0, 'n'), 10);
        o.step(1);
        Check.same("in order", o.endOf(order), 0);
        receiver(o, "n", 11);
        o.step(1);
        ground(o, "s", 0);
    }

    private static void controlGivenUp() {
        Orbithouse o = Check.near();
        deaf(o, true);
        o.window(5, 5, 1);
        o.begin(7);
        o.step(1);
        ground(o, "cru", 5, 0, 1);
        o.step(5);
        ground(o, "cru", 5, 1, 2);
        o.step(5);
        ground(o, "cru", 0, 2, 2);
        Check.same("given up", o.state(), 's');
        Check.same("resume", o.resume(), 0);
        Check.same("control again", o.state(), 'c');
        ground(o, "rt", 0, 1);
        deaf(o, false);
        o.step(1);
        ground(o, "ru", 0, 3);
        o.step(1);
        receiver(o, "nt", 7, 1);
        o.step(1);
        Check.same("active", o.state(), 'a');
        // Given up in 'a' later on, it goes on in 'a'.
        deaf(o, true);
        Check.tellInOrder(o, 0);
        o.step(12);
        Check.same("given up", o.state(), 's');
        Check.same("resume", o.resume(), 1);
        Check.same("active", o.state(), 'a');
    }

    private static void beginWaitsTwentyTicks() {
        Orbithouse o = Check.near();
        Check.tellInOrder(o, 0);
        Check.refused("one waits", IllegalStateException.class, o, () -> o.begin(3));
        o.step(1);
        Check.refused("SENT is not empty", IllegalStateException.class, o, () -> o.begin(3));
        o.step(2);
        ground(o, "sw", 0, 0);
        for (int t = 3; t <= 21; t++) {
            Check.refused("begin at " + t, IllegalStateException.class, o, () -> o.begin(3));
            o.step(1);
        }
        Check.same("begin at 22", o.begin(3), 1);
    }

    private static void lostFrameComesAgain() {
        Orbithouse o = Check.near();
        int first = Check.tellInOrder(o, 0);
        int second = Check.tellInOrder(o, 0);
        o.step(1);
        deaf(o, true);
        o.step(1);
        deaf(o, false);
        o.step(1);
        receiver(o, "na", 0, 1);
        ground(o, "su", 2, 2);
        o.step(1);
        ground(o, "smu", 2, 1, 3);
        Check.same("the first one went again", o.sentAt(0, 'm'), 0);
        Check.same("the second one is marked", o.sentAt(1, 'm'), 1);
        o.step(1);
        receiver(o, "na", 1, 0);
        ground(o, "smu", 2, 0, 4);
        o.step(1);
        receiver(o, "na", 2, 0);
        o.step(1);
        ground(o, "s", 0);
        Check.same("first", o.endOf(first), 0);
        Check.same("second", o.endOf(second), 0);
        Check.same("the first came first", o.kept(0, 'b'), first);
        Check.same("the second then", o.kept(1, 'b'), second);
    }

    private static void againHasTenTicks() {
        Orbithouse o = Check.near();
        o.window(5, 60, 3);
        Check.tellInOrder(o, 0);
        Check.tellInOrder(o, 0);
        o.step(1);
        deaf(o, true);
        o.step(1);
        deaf(o, false);
        o.step(2);
        ground(o, "mu", 1, 3);
        deaf(o, true);
        o.step(10);
        Check.same("T", o.parameter(0), 14);
        receiver(o, "na", 0, 1);
        ground(o, "mu", 0, 4);
        o.step(1);
        ground(o, "mu", 1, 5);
        ground(o, "r", 0);
    }

    private static void farAheadLocks() {
        for (int lost = 15; lost <= 16; lost++) {
            Orbithouse o = Check.near();
            o.window(20, 60, 3);
            for (int i = 0; i < 18; i++) {
                Check.tellInOrder(o, 0);
            }
            o.step(1);
            deaf(o, true);
            o.step(lost);
            deaf(o, false);
            receiver(o, "nla", 0, 0, 0);
            o.step(1);
            receiver(o, "nla", 0, lost == 16 ? 1 : 0, lost == 15 ? 1 : 0);
            Check.same("LOCKED as parameter", o.parameter(11), lost == 16 ? 1 : 0);
            if (lost == 15) {
                continue;
            }
            o.step(1);
            Check.same("locked", o.state(), 'l');
            int u = o.ground('u');
            int fast = Check.tellFast(o, 0);
            o.step(4);
            Check.same("a fast one alone", o.ground('u'), u + 1);
            Check.same("fast ones come", o.endOf(fast), 0);
            Check.refused("begin when locked", IllegalStateException.class, o, () -> o.begin(0));
            Check.refused("resume when locked", IllegalStateException.class, o, o::resume);
            Check.same("unlock", o.unlock(), 1);
            Check.same("control", o.state(), 'c');
            o.step(2);
            receiver(o, "ntl", 0, 1, 0);
            o.step(1);
            Check.same("active", o.state(), 'a');
            ground(o, "m", o.ground('s') - 1);
            o.step(40);
            ground(o, "sw", 0, 0);
            receiver(o, "n", 18);
            Check.same("true", o.isTrue(), true);
        }
    }

    private static void farBehindLocks() {
        for (int come = 16; come <= 17; come++) {
            Orbithouse o = Check.near();
            o.breakUnit(2, 'd');
            o.breakUnit(3, 'd');
            o.window(20, 30, 3);
            for (int i = 0; i < come; i++) {
                Check.tellInOrder(o, 0);
            }
            o.step(come + 1);
            receiver(o, "n", come);
            ground(o, "s", come);
            o.step(29);
            ground(o, "r", 1);
            o.step(1);
            receiver(o, "nlaw", come, come == 17 ? 1 : 0, 0, 0);
            Check.same("each once", o.world('n'), come + 2);
        }
    }

    private static void waitIsHeeded() {
        Orbithouse o = Check.near();
        Check.doneAs(o, 0, 12, 0, 0);
        Check.doneAs(o, 0, 13, 1);
        for (int i = 0; i < 8; i++) {
            Check.tellFast(o, 99);
        }
        for (int i = 0; i < 8; i++) {
            o.link(true, 9 - i, 0, 0, 0, 0);
            o.step(1);
        }
        o.link(true, 1, 0, 0, 0, 0);
        int waits = Check.tellInOrder(o, 0);
        int next = Check.tellInOrder(o, 0);
        o.step(1);
        // Eight fast ones fill the queue; as one fails its event brings another one, so it stays full.
        o.step(1);
        Check.same("full", o.parameter(6), 8);
        receiver(o, "nwa", 0, 1, 1);
        ground(o, "sw", 2, 0);
        int later = Check.tellInOrder(o, 0);
        o.step(1);
        ground(o, "swm", 2, 1, 0);
        receiver(o, "nwa", 0, 1, 1);
        Check.same("actions fill it", o.queueAt(7, 'f'), 'a');
        o.step(4);
        receiver(o, "nwa", 0, 1, 1);
        ground(o, "swm", 2, 1, 0);
        // The last fast one fails as the eighth: behind it the queue falls.
        o.step(3);
        receiver(o, "nwa", 0, 0, 1);
        o.step(20);
        Check.same("come", o.endOf(waits), 0);
        Check.same("come", o.endOf(next), 0);
        Check.same("come", o.endOf(later), 0);
        receiver(o, "nwa", 3, 0, 0);
        ground(o, "sw", 0, 0);
    }

    private static void waitWhileHanging() {
        Orbithouse o = Check.near();
        o.hang();
        int order = Check.tellInOrder(o, 0);
        int fast = Check.tellFast(o, 0);
        o.step(3);
        receiver(o, "nwa", 0, 1, 1);
        Check.same("a fast one is gone", o.endOf(fast), -1);
        ground(o, "d", 0);
        o.step(5);
        Check.same("resets", o.board(), 's');
        receiver(o, "nwa", 0, 1, 1);
        o.step(1);
        Check.same("runs", o.board(), 'r');
        receiver(o, "nwa", 0, 0, 1);
        Check.same("one frame down", o.ground('d'), 0);
        o.step(1);
        Check.same("one frame down", o.ground('d'), 1);
        o.step(20);
        Check.same("done", o.endOf(order), 0);
    }

    private static void oldWordIsNothing() {
        Orbithouse o = Check.near();
        o.link(false, 9, 0, 0, 0, 0);
        o.step(1);
        o.link(false, 1, 0, 0, 0, 0);
        Check.tellInOrder(o, 0);
        o.step(4);
        ground(o, "s", 0);
        o.window(5, 30, 3);
        Check.tellInOrder(o, 0);
        o.step(3);
        deaf(o, true);
        Check.tellInOrder(o, 0);
        o.step(1);
        Check.same("T", o.parameter(0), 9);
        ground(o, "scr", 1, 30, 0);
        int was = o.sentAt(0, 'n');
        o.step(1);
        ground(o, "scr", 1, 29, 0);
        Check.same("the old word took nothing", o.sentAt(0, 'n'), was);
    }

    private static void passAlone() {
        Orbithouse o = Check.near();
        o.sky(96, 2);
        o.step(1);
        o.window(5, 5, 3);
        Check.tellInOrder(o, 0);
        deaf(o, true);
        o.step(47);
        ground(o, "suwm", 1, 1, 0, 0);
        o.step(1);
        Check.same("T", o.parameter(0), 49);
        ground(o, "sum", 1, 1, 0);
        o.step(20);
        // The timer marks, but there is no PASS in which it could be sent.
        ground(o, "sumrc", 1, 1, 1, 1, 0);
        o.step(27);
        ground(o, "sumr", 1, 2, 0, 1);
        Check.same("T", o.parameter(0), 96);
    }

    private static void receivers() {
        for (int good = 0; good < 2; good++) {
            Orbithouse o = Check.near();
            o.breakUnit(good, 'd');
            o.breakUnit(1 - good, 's');
            Check.doneAs(o, 0, 0);
        }
        Orbithouse o = Check.near();
        deaf(o, true);
        Check.doneAs(o, -1, 0);
    }

    private static void fastAheadOfOrder() {
        Orbithouse o = Check.near();
        int order = Check.tellInOrder(o, 0);
        int fast = Check.tellFast(o, 0);
        o.step(1);
        ground(o, "wfs", 1, 0, 0);
        o.step(1);
        ground(o, "wfs", 0, 0, 1);
        Check.same("fast", o.endOf(fast), 0);
        Check.same("order", o.endOf(order), -1);
    }

    private static void numbersGoRound() {
        Orbithouse o = Check.near();
        o.begin(62);
        o.step(3);
        for (int i = 0; i < 4; i++) {
            Check.tellInOrder(o, 0);
        }
        o.step(2);
        Check.same("62", o.sentAt(0, 'n'), 62);
        Check.same("63", o.sentAt(1, 'n'), 63);
        ground(o, "n", 0);
        Check.same("sound", o.isSound(), true);
        o.step(6);
        ground(o, "nsw", 2, 0, 0);
        receiver(o, "n", 2);
        Check.same("NEXT as parameter", o.parameter(10), 2);
    }

    private static void turnsGoRound() {
        Orbithouse o = Check.near();
        for (int i = 1; i <= 258; i++) {
            Check.same("turn", o.begin(i % 64), i % 256);
            o.step(3);
        }
        receiver(o, "tn", 2, 258 % 64);
    }

    private static void unlockingBeginsAnew() {
        Orbithouse o = Check.near();
        o.window(20, 5, 9);
        for (int i = 0; i < 17; i++) {
            Check.tellInOrder(o, 0);
        }
        o.step(1);
        deaf(o, true);
        o.step(37);
        ground(o, "r", 1);
        deaf(o, false);
        o.step(1);
        receiver(o, "l", 1);
        o.step(1);
        Check.same("locked", o.state(), 'l');
        ground(o, "rt", 1, 0);
        o.unlock();
        ground(o, "rt", 0, 1);
    }

    /** An action that fails brings itself again and again: the queue stays full. */
    private static void controlEndsWaiting() {
        Orbithouse o = Check.near();
        Check.doneAs(o, 0, 4, 0, 24, 0, 1);
        Check.doneAs(o, 0, 12, 0, 0);
        Check.doneAs(o, 0, 13, 1);
        for (int i = 0; i < 8; i++) {
            Check.tellFast(o, 99);
        }
        for (int i = 0; i < 8; i++) {
            o.link(true, 9 - i, 0, 0, 0, 0);
            o.step(1);
        }
        o.step(2);
        Check.same("full", o.parameter(6), 8);
        o.link(true, 9, 0, 0, 0, 0);
        o.link(false, 9, 0, 0, 0, 0);
        o.window(20, 60, 3);
        for (int i = 0; i < 18; i++) {
            Check.tellInOrder(o, 0);
        }
        o.step(10);
        receiver(o, "nlwa", 0, 0, 1, 1);
        o.step(15);
        receiver(o, "nlwa", 0, 0, 1, 1);
        o.step(1);
        receiver(o, "nlwa", 0, 1, 1, 1);
        o.step(9);
        Check.same("locked", o.state(), 'l');
        o.unlock();
        o.step(9);
        receiver(o, "ntlwa", 0, 0, 1, 1, 1);
        o.step(1);
        receiver(o, "ntlwa", 0, 1, 0, 0, 0);
        Check.same("full", o.parameter(6), 8);
    }

    private static void bentUpIsNothing() {
        Orbithouse o = Check.near();
        o.breakUnit(2, 'd');
        o.breakUnit(3, 'd');
        o.step(30);
        // 9 of 10 frames are bent.
        o.link(true, 1, 0, 0, 0, 9);
        o.seed(12);
        int made = o.world('n');
        Check.doneAs(o, -1, 0);
        Check.same("no report", o.world('n'), made);
    }
}
