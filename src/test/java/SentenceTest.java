/** Sentences of parts 3, 6, 9, 10 and 11 that name no boundary, and at which no other test looks by itself. */
public final class SentenceTest {
    public static void main(String[] args) {
        wordsWhenGivenUp();
        lockedSendsNoneInOrder();
        controlSendsNoneInOrder();
        lateWordOfWaiting();
        lateWordOfAgain();
        againWhileSomeAreMarked();
        lockedAndAgain();
        controlMarkedAsItIsAnswered();
        hangingDoesNoCommands();
        heatersTellNoAngle();
        wheelsAreNotPairs();
        payloadIsNoWheel();
        oneThatIsOnIsEnough();
        oneHeldBadIsNotBoth();
        missesOfOneThatIsOn();
        deadHeaterInTheCold();
        noRoomIsNoEvent();
        Check.finish("SentenceTest");
    }

    private static void ground(Orbithouse o, String what, int... due) {
        for (int i = 0; i < due.length; i++) {
            Check.same("T " + o.parameter(0) + ", ground " + what.charAt(i), o.ground(what.charAt(i)), due[i]);
        }
    }

    private static void deaf(Orbithouse o, boolean is) {
        o.breakUnit(0, is ? 'd' : 'g');
        o.breakUnit(1, is ? 'd' : 'g');
    }

    /** "In the state 'a', then": in 's' words arrive, but are not done; nor is one in order sent. */
    private static void wordsWhenGivenUp() {
        Orbithouse o = Check.near();
        Check.doneAs(o, 0, 1, 2, 0);
        o.window(2, 5, 1);
        int[] orders = {Check.tellInOrder(o, 0), Check.tellInOrder(o, 0)};
        Check.tellInOrder(o, 0);
        // The transmitter is off: both come, but the ground hears nothing of it.
        o.step(20);
        Check.same("given up", o.state(), 's');
        Check.same("come", o.endOf(orders[0]), 0);
        Check.same("come", o.endOf(orders[1]), 0);
        ground(o, "swr", 2, 1, 2);
        Check.tellFast(o, 1, 2, 1);
        o.step(2);
        int heard = o.ground('d');
        int sent = o.ground('u');
        o.step(5);
        ground(o, "dswrmu", heard + 5, 2, 1, 2, 0, sent);
        Check.same("given up still", o.state(), 's');
        Check.same("SENT", o.resume(), 2);
        ground(o, "swrm", 2, 1, 0, 2);
        // The next word takes both, and the third one is sent in the same tick.
        o.step(1);
        ground(o, "swmnu", 1, 0, 0, 3, sent + 1);
    }

    /** "Else, in the state 'a'": in 'l' neither one that is marked nor one that waits is sent, but a fast one is. */
    private static void lockedSendsNoneInOrder() {
        Orbithouse o = Check.near();
        o.window(20, 5, 9);
        for (int i = 0; i < 21; i++) {
            Check.tellInOrder(o, 0);
        }
        deaf(o, true);
        // 20 frames in 20 ticks; 5 ticks behind the last one all are marked, and sent again from T 25 on.
        o.step(41);
        ground(o, "uwsmr", 37, 1, 20, 3, 1);
        deaf(o, false);
        // The 17th one comes: it is 16 ahead.
        o.step(1);
        Check.same("LOCKED", o.receiver('l'), 1);
        ground(o, "um", 38, 2);
        o.step(1);
        Check.same("locked", o.state(), 'l');
        int fast = Check.tellFast(o, 0);
        o.step(6);
        ground(o, "uwsmrf", 39, 1, 20, 2, 1, 0);
        Check.same("fast", o.endOf(fast), 0);
    }

    /** The same in 'c': ahead of the word only the control frame is sent, once. */
    private static void controlSendsNoneInOrder() {
        Orbithouse o = Check.near();
        o.link(false, 9, 0, 0, 0, 0);
        o.begin(5);
        int order = Check.tellInOrder(o, 0);
        o.step(1);
        ground(o, "uw", 1, 1);
        o.step(9);
        // The frame down with the new turn is sent at T 2, and arrives at T 11.
        ground(o, "uwsn", 1, 1, 0, 5);
        Check.same("on its way", o.state(), 'c');
        o.step(1);
        ground(o, "uwsn", 2, 0, 1, 6);
        Check.same("active", o.state(), 'a');
        Check.same("it begins with 5", o.sentAt(0, 'n'), 5);
        o.step(1);
        Check.same("come", o.endOf(order), 0);
    }

    /**
     * Eight fast ones that fail fill the queue, and the action of event 0 keeps it full from T 14 to 21; two in order
     * wait meanwhile. The word of T 21 tells WAIT and comes at T 30, as the only one.
     */
    private static void lateWordOfWaiting() {
        Orbithouse o = Check.near();
        Check.doneAs(o, 0, 12, 0, 0);
        Check.doneAs(o, 0, 13, 1);
        Check.tellInOrder(o, 0);
        Check.together(o, Check.times(8, 99));
        Check.tellInOrder(o, 0);
        o.step(7);
        Check.same("T", o.parameter(0), 20);
        o.link(false, 9, 0, 0, 0, 0);
        o.step(1);
        Check.same("WAIT", o.receiver('w'), 1);
        o.link(false, 1, 0, 0, 0, 0);
        o.step(7);
        Check.same("both came", o.receiver('n'), 2);
        ground(o, "sw", 0, 0);
        o.link(false, 9, 0, 0, 0, 0);
        o.step(1);
        Check.tellInOrder(o, 0);
        o.step(1);
        // "0 without any": it is no old word, and WAIT is known from then on, until a word tells of none.
        ground(o, "sw", 0, 1);
        o.step(7);
        Check.same("T", o.parameter(0), 37);
        ground(o, "sw", 0, 1);
        o.step(1);
        ground(o, "sw", 1, 0);
    }

    /** "None was marked by such a word in the 10 ticks ahead": a word that finds SENT empty marks none. */
    private static void lateWordOfAgain() {
        Orbithouse o = Check.near();
        o.window(5, 5, 3);
        loseFirstOfTwo(o);
        o.step(2);
        Check.same("T", o.parameter(0), 4);
        ground(o, "um", 3, 1);
        deaf(o, true);
        o.step(5);
        o.link(false, 9, 0, 0, 0, 0);
        o.step(1);
        ground(o, "umr", 5, 1, 1);
        Check.same("AGAIN", o.receiver('a'), 1);
        o.link(false, 1, 0, 0, 0, 0);
        deaf(o, false);
        o.step(3);
        ground(o, "usmr", 6, 0, 0, 0);
        // The word of T 10 comes at T 19, 15 ticks behind the marking, and finds SENT empty.
        o.step(6);
        Check.same("T", o.parameter(0), 19);
        ground(o, "usm", 6, 0, 0);
        loseFirstOfTwo(o);
        o.step(1);
        ground(o, "um", 8, 0);
        o.step(1);
        Check.same("T", o.parameter(0), 23);
        ground(o, "um", 9, 1);
    }

    private static void loseFirstOfTwo(Orbithouse o) {
        Check.tellInOrder(o, 0);
        Check.tellInOrder(o, 0);
        o.step(1);
        deaf(o, true);
        o.step(1);
        deaf(o, false);
    }

    /** What is in the queue as the board begins to hang is not done, and has the end 9 by the reset. */
    private static void hangingDoesNoCommands() {
        Orbithouse o = Check.near();
        int[] orders = Check.together(o, Check.times(3, 0));
        o.step(1);
        Check.same("done", o.endOf(orders[0]), 0);
        o.hang();
        for (int t = 0; t < 4; t++) {
            o.step(1);
            Check.same("in the queue", o.parameter(6), 2);
            Check.same("waits", o.endOf(orders[1]), -2);
            Check.same("waits", o.endOf(orders[2]), -2);
        }
        o.step(1);
        Check.same("resets", o.board(), 's');
        Check.same("in the queue", o.parameter(6), 0);
        Check.same("reset", o.endOf(orders[1]), 9);
        Check.same("reset", o.endOf(orders[2]), 9);
    }

    /** "A sun sensor, in SUN, the angle": without one no unit answers it. */
    private static void heatersTellNoAngle() {
        Orbithouse o = Check.near();
        // Heaters stay on below a C7 of 255.
        Check.doneAs(o, 0, 30, 0, 7, 255);
        for (int unit : new int[] {3, 7, 8, 9, 13, 14}) {
            Check.doneAs(o, 0, 1, unit, 1);
        }
        Check.doneAs(o, 0, 1, 7, 0);
        Check.doneAs(o, 0, 1, 6, 0);
        int measured = o.parameter(4);
        Check.same("a heater is on", o.unit(8, 'o'), 1);
        o.step(1);
        Check.same("the angle changed", o.world('a') != measured, true);
        Check.same("the angle as it was measured last", o.parameter(4), measured);
    }

    /** "If it is one of two (2 to 9), the other one is put on": a wheel is not. */
    private static void wheelsAreNotPairs() {
        for (int wheel = 10; wheel < 14; wheel++) {
            Orbithouse o = Check.near();
            Check.doneAs(o, 0, 1, 13, 1);
            int other = wheel ^ 1;
            Check.doneAs(o, 0, 1, other, 0);
            o.breakUnit(wheel, 'd');
            o.step(3);
            Check.same("held bad", o.unit(wheel, 'b'), 1);
            Check.same("off", o.unit(wheel, 'o'), 0);
            Check.same("the one beside it is off", o.unit(other, 'o'), 0);
            Check.same("the others are on", o.parameter(8), 7);
        }
    }

    /** "If three or more of them are on and not dead": the payload, or a unit ahead of the wheels, is none of them. */
    private static void payloadIsNoWheel() {
        Orbithouse o = Check.near();
        Check.doneAs(o, 0, 30, 0, 7, 255);
        Check.doneAs(o, 0, 1, 14, 1);
        Check.doneAs(o, 0, 1, 9, 1);
        Check.doneAs(o, 0, 1, 12, 0);
        int rate = o.world('r');
        Check.same("it turns", rate != 0, true);
        while (o.parameter(0) < 31) {
            o.step(1);
            Check.same("the rate stays", o.world('r'), rate);
        }
        Check.same("a turn would have been due", o.world('a') * rate > 0, true);
    }

    /** "Of gyros, and of sun sensors, if none is on": the second one of them is enough. */
    private static void oneThatIsOnIsEnough() {
        for (int second : new int[] {5, 7}) {
            Orbithouse o = Check.near();
            Check.doneAs(o, 0, 1, second, 1);
            Check.doneAs(o, 0, 1, second - 1, 0);
            Check.doneAs(o, 0, 3, 0);
            Check.same("mode", o.parameter(1), 0);
            Check.same("on as it was", o.unit(second, 'o'), 1);
            Check.same("off as it was", o.unit(second - 1, 'o'), 0);
        }
    }

    /** "And nothing is marked": as AGAIN is told first, the timer has marked all, and one of them is not sent yet. */
    private static void againWhileSomeAreMarked() {
        Orbithouse o = Check.near();
        o.window(5, 5, 3);
        for (int i = 0; i < 4; i++) {
            Check.tellInOrder(o, 0);
        }
        deaf(o, true);
        o.step(10);
        ground(o, "smru", 4, 2, 1, 6);
        deaf(o, false);
        o.step(1);
        Check.same("AGAIN", o.receiver('a'), 1);
        ground(o, "mu", 1, 7);
        o.step(1);
        ground(o, "mu", 0, 8);
        // Now nothing is marked, and the word marks all.
        o.step(1);
        ground(o, "smru", 4, 3, 1, 9);
    }

    /** "If LOCKED is told, the state is 'l'; else": AGAIN in the same word marks nothing. */
    private static void lockedAndAgain() {
        Orbithouse o = Check.near();
        o.window(20, 60, 3);
        for (int i = 0; i < 20; i++) {
            Check.tellInOrder(o, 0);
        }
        deaf(o, true);
        o.step(15);
        o.link(true, 2, 0, 0, 0, 0);
        o.step(1);
        o.link(true, 1, 0, 0, 0, 0);
        o.step(1);
        deaf(o, false);
        // One that is 15 ahead, and behind it one that is 16 ahead, in the same tick.
        o.step(1);
        Check.same("AGAIN", o.receiver('a'), 1);
        Check.same("LOCKED", o.receiver('l'), 1);
        ground(o, "sm", 18, 0);
        o.step(1);
        Check.same("locked", o.state(), 'l');
        ground(o, "sm", 18, 0);
        o.step(5);
        ground(o, "smu", 18, 0, 18);
    }

    /** "In the state 'c' the control frame, if it is marked": in 'a' it is not sent any more. */
    private static void controlMarkedAsItIsAnswered() {
        Orbithouse o = Check.near();
        o.link(false, 9, 0, 0, 0, 0);
        o.window(5, 5, 3);
        o.begin(7);
        o.step(5);
        ground(o, "ur", 1, 0);
        o.sky(96, 0);
        o.step(5);
        Check.same("on its way", o.state(), 'c');
        ground(o, "ur", 1, 1);
        o.step(1);
        Check.same("answered", o.state(), 'a');
        ground(o, "ur", 1, 0);
        o.sky(96, 48);
        o.step(3);
        ground(o, "u", 1);
        Check.tellInOrder(o, 0);
        o.step(1);
        ground(o, "usn", 2, 1, 8);
        Check.same("one in order", o.sentAt(0, 'n'), 7);
    }

    /** "Both gyros, both sun sensors are held bad": one of two is no reason. */
    private static void oneHeldBadIsNotBoth() {
        for (int unit = 4; unit < 8; unit++) {
            Orbithouse o = Check.near();
            Check.doneAs(o, 0, 2, unit, 1);
            o.step(2);
            Check.same("SUN still, without unit " + unit, o.parameter(1), 1);
            Check.doneAs(o, 0, 2, unit ^ 1, 1);
            Check.same("SAFE without both", o.parameter(1), 0);
        }
    }

    /** As it becomes SAFE, gyros and sun sensors are put on "if none is on", wheels in any case: misses tell it. */
    private static void missesOfOneThatIsOn() {
        Orbithouse o = Check.near();
        Check.tellFast(o, 3, 0);
        o.step(1);
        for (int unit : new int[] {4, 6, 10}) {
            o.breakUnit(unit, 'd');
        }
        o.step(1);
        Check.same("SAFE", o.parameter(1), 0);
        Check.same("misses of the gyro", o.unit(4, 'm'), 1);
        Check.same("misses of the sun sensor", o.unit(6, 'm'), 1);
        Check.same("misses of the wheel", o.unit(10, 'm'), 0);
        o.step(2);
        Check.same("held bad", o.unit(4, 'b'), 1);
        Check.same("held bad", o.unit(6, 'b'), 1);
        Check.same("not held bad yet", o.unit(10, 'b'), 0);
        o.step(1);
        Check.same("held bad", o.unit(10, 'b'), 1);
    }

    /** "And none is on, the first one is put on": one that is on is not put on again, so its misses are counted. */
    private static void deadHeaterInTheCold() {
        Orbithouse o = Check.near();
        Check.doneAs(o, 0, 30, 0, 7, 255);
        Check.doneAs(o, 0, 30, 0, 6, 255);
        o.step(1);
        Check.same("on", o.unit(8, 'o'), 1);
        o.breakUnit(8, 'd');
        for (int misses = 1; misses <= 2; misses++) {
            o.step(1);
            Check.same("misses", o.unit(8, 'm'), misses);
            Check.same("the other one", o.unit(9, 'o'), 0);
        }
        o.step(1);
        Check.same("held bad", o.unit(8, 'b'), 1);
        Check.same("the other one", o.unit(9, 'o'), 1);
    }

    /** The operation 8 without room: the register 3 becomes 9, the command is LOST, and that is all. */
    private static void noRoomIsNoEvent() {
        Orbithouse o = Check.near();
        Check.doneAs(o, 0, 14, 0, 0, 1, 8);
        Check.doneAs(o, 0, 14, 0, 1, 8, 5);
        Check.doneAs(o, 0, 15, 0, 100);
        Check.together(o, Check.times(8, 0));
        int reports = o.world('n');
        o.step(1);
        Check.same("register 3", o.register(0, 3), 9);
        Check.same("LOST", o.parameter(15), 1);
        Check.same("row", o.procedure(0, 'r'), 2);
        Check.same("one report, of the command that was done", o.world('n'), reports + 1);
    }
}
