/** The boundaries of part 3: rows of 24, numbers modulo 64 and 256, the window, the timer, tries, begin and words. */
public final class BoundsGroundTest {
    private static final Class<?> STATE = IllegalStateException.class;

    public static void main(String[] args) {
        twentyFourWait();
        ordersCount();
        framesAhead();
        framesBehind();
        lockedTakesNothing();
        roomInTheQueue();
        oneFrameComesAgain();
        receiverWithoutBoard();
        stuckBoardTakesFrames();
        fastAheadOfMarked();
        controlComesTwice();
        oldControlComesLate();
        turnsOfUnlocking();
        timerByDefault();
        timesAndLimits();
        controlTimesAndLimits();
        windowEdges();
        windowShrinks();
        wordsEndTries();
        wordsWithoutNews();
        controlEndsTries();
        timerStandsStill();
        beginAfterOneSentAgain();
        tenTicksOfMarking();
        otherTurnIsNoWord();
        passEdge();
        commandsComeAsTold();
        Check.finish("BoundsGroundTest");
    }

    private static void deaf(Orbithouse o, boolean is) {
        o.breakUnit(0, is ? 'd' : 'g');
        o.breakUnit(1, is ? 'd' : 'g');
    }

    private static void ground(Orbithouse o, String what, int... due) {
        for (int i = 0; i < due.length; i++) {
            Check.same("T " + o.parameter(0) + ", ground " + what.charAt(i), o.ground(what.charAt(i)), due[i]);
        }
    }

    private static void receiver(Orbithouse o, String what, int... due) {
        for (int i = 0; i < due.length; i++) {
            Check.same("T " + o.parameter(0) + ", receiver " + what.charAt(i), o.receiver(what.charAt(i)), due[i]);
        }
    }

    private static void tellInOrder(Orbithouse o, int count) {
        for (int i = 0; i < count; i++) {
            Check.tellInOrder(o, 0);
        }
    }

    /** "Of 24 each at most": the 24th, the 25th, and one more as soon as one was sent. */
    private static void twentyFourWait() {
        Orbithouse o = Check.near();
        o.sky(96, 0);
        tellInOrder(o, 23);
        Check.same("the 24th", Check.tellInOrder(o, 0), 23);
        Check.refused("the 25th in order", STATE, o, () -> Check.tellInOrder(o, 0));
        ground(o, "owf", 24, 24, 0);
        for (int i = 0; i < 24; i++) {
            Check.same("fast ones have their own row", Check.tellFast(o, 0), 24 + i);
        }
        Check.refused("the 25th fast one", STATE, o, () -> Check.tellFast(o, 0));
        Check.refused("the 25th in order", STATE, o, () -> Check.tellInOrder(o, 0));
        Check.same("sound", o.isSound(), true);
        o.step(3);
        ground(o, "owfu", 48, 24, 24, 0);
        o.sky(96, 48);
        o.step(1);
        ground(o, "wfu", 24, 23, 1);
        Check.same("room for one", Check.tellFast(o, 0), 48);
        Check.refused("room for one alone", STATE, o, () -> Check.tellFast(o, 0));
        o.step(24);
        ground(o, "wfu", 24, 0, 25);
        Check.refused("still 24 in order", STATE, o, () -> Check.tellInOrder(o, 0));
        o.step(1);
        ground(o, "wfu", 23, 0, 26);
        Check.same("room for one", Check.tellInOrder(o, 0), 49);
        Check.refused("room for one alone", STATE, o, () -> Check.tellInOrder(o, 0));
        Check.same("fast ones came as told", o.endOf(24) + o.endOf(47), 0);
        o.step(40);
        ground(o, "wfs", 0, 0, 0);
        for (int i = 0; i < 50; i++) {
            Check.same("all came", o.endOf(i), 0);
        }
    }

    /** "Its ORDER, from 0 on", of both sorts together. */
    private static void ordersCount() {
        Orbithouse o = Check.near();
        for (int i = 0; i < 130; i++) {
            Check.same("ORDER", i % 2 == 0 ? Check.tellInOrder(o, 0) : Check.tellFast(o, 0), i);
            o.step(3);
            Check.refused("no such ORDER", IndexOutOfBoundsException.class, o, () -> o.endOf(o.ground('o')));
            Check.same("the last one", o.endOf(o.ground('o') - 1), 0);
        }
        // 65 were in order: NEXT and SEND went round.
        receiver(o, "n", 1);
        ground(o, "n", 1);
    }

    /** "d 1 to 15: AGAIN is on", "others: LOCKED is on", also as numbers go round. */
    private static void framesAhead() {
        for (int base : new int[] {0, 48, 49, 60}) {
            for (int ahead : new int[] {1, 14, 15, 16, 17, 19}) {
                Orbithouse o = Check.near();
                if (base > 0) {
                    o.begin(base);
                    o.step(3);
                }
                o.window(20, 60, 9);
                tellInOrder(o, 20);
                o.step(1);
                deaf(o, true);
                o.step(ahead);
                deaf(o, false);
                receiver(o, "nlwa", base, 0, 0, 0);
                int made = o.world('n');
                o.step(1);
                receiver(o, "nlwa", base, ahead >= 16 ? 1 : 0, 0, ahead <= 15 ? 1 : 0);
                Check.same("no command came", o.world('n') + o.parameter(6), made);
            }
        }
    }

    /** "d 48 to 63: nothing"; 47 locks. */
    private static void framesBehind() {
        for (int base : new int[] {0, 50, 55}) {
            for (int behind : new int[] {1, 2, 15, 16, 17, 20}) {
                Orbithouse o = Check.near();
                o.begin(base);
                o.step(3);
                // Without words the ground sends all anew, once the timer is over.
                Check.doneAs(o, 0, 1, 2, 0);
                o.window(20, 30, 9);
                tellInOrder(o, behind);
                o.step(behind + 1);
                int next = (base + behind) % 64;
                receiver(o, "nlwa", next, 0, 0, 0);
                ground(o, "s", behind);
                int made = o.world('n');
                o.step(29);
                ground(o, "r", 1);
                receiver(o, "nlwa", next, 0, 0, 0);
                o.step(1);
                receiver(o, "nlwa", next, behind >= 17 ? 1 : 0, 0, 0);
                Check.same("each once", o.world('n') + o.parameter(6), made);
                o.step(5);
                // The next one is 16 behind at most, unless LOCKED is on already.
                receiver(o, "nlwa", next, behind >= 17 ? 1 : 0, 0, 0);
            }
        }
    }

    /** "If LOCKED is on, nothing": even the frame that is due does not come, and neither WAIT nor AGAIN change. */
    private static void lockedTakesNothing() {
        for (int others = 15; others <= 16; others++) {
            Orbithouse o = Check.near();
            Check.doneAs(o, 0, 41, 1, 0);
            o.breakUnit(2, 'd');
            o.step(1);
            o.window(20, 60, 9);
            tellInOrder(o, others + 1);
            // The first one comes 14 and 19 ticks later, the first time to deaf receivers.
            o.link(true, 9, 0, 9, 9, 0);
            o.seed(Check.seedFor(new int[] {10, 10, 5, 10, 5, 10}, new int[] {-1, 0, 4, 0, 4, -1}));
            int made = o.world('n');
            o.step(1);
            o.link(true, 1, 0, 0, 0, 0);
            o.step(13);
            deaf(o, true);
            o.step(1);
            deaf(o, false);
            receiver(o, "nla", 0, 0, 1);
            o.step(4);
            receiver(o, "nlwa", 0, others == 16 ? 1 : 0, 0, 1);
            Check.same("none came", o.world('n') + o.parameter(6), made);
            o.step(1);
            receiver(o, "nlwa", others == 16 ? 0 : 1, others == 16 ? 1 : 0, 0, others == 16 ? 1 : 0);
            Check.same("came", o.endOf(o.ground('o') - others - 1), others == 16 ? -1 : 0);
        }
    }

    /** "If there is room in the queue", of 8: the frame in order is the 8th, or the 9th. */
    private static void roomInTheQueue() {
        for (int fast = 7; fast <= 8; fast++) {
            Orbithouse o = Check.near();
            int order = Check.tellInOrder(o, 0);
            int[] others = Check.together(o, Check.times(fast, 0));
            receiver(o, "nwa", 0, 0, 0);
            o.step(1);
            receiver(o, "nwa", fast == 7 ? 1 : 0, 0, fast == 7 ? 0 : 1);
            Check.same("in order", o.endOf(order), fast == 7 ? -2 : -1);
            Check.same("the queue", o.parameter(6), 7);
            Check.same("the last of it", o.queueAt(6, 'o'), fast == 7 ? order : others[7]);
            Check.same("by frames none is LOST", o.parameter(15), 0);
            Check.refused("no eighth", IndexOutOfBoundsException.class, o, () -> o.queueAt(7, 'k'));
            o.step(20);
            Check.same("in order", o.endOf(order), 0);
            Check.same("fast", o.endOf(others[fast - 1]), 0);
            receiver(o, "nwa", 1, 0, 0);
        }
        // Of nine fast ones the ninth is gone, and nobody hears of it.
        Orbithouse o = Check.near();
        int[] orders = Check.together(o, Check.times(9, 0));
        o.step(20);
        for (int i = 0; i < 9; i++) {
            Check.same("fast " + i, o.endOf(orders[i]), i < 8 ? 0 : -1);
        }
        receiver(o, "nwa", 0, 0, 0);
        Check.same("not LOST", o.parameter(15), 0);
    }

    /** AGAIN is told without WAIT, and SENT has one alone: it is marked, and sent in the same tick. */
    private static void oneFrameComesAgain() {
        Orbithouse o = Check.near();
        o.window(5, 60, 3);
        int order = Check.tellInOrder(o, 0);
        Check.together(o, Check.times(8, 0));
        ground(o, "su", 1, 9);
        o.step(1);
        receiver(o, "nwa", 0, 0, 1);
        ground(o, "sum", 1, 9, 0);
        o.step(1);
        ground(o, "sum", 1, 10, 0);
        o.step(1);
        receiver(o, "nwa", 1, 0, 0);
        Check.same("it waits", o.endOf(order), -2);
    }

    /** "It works always": numbers are looked at while the board hangs, is resetting, or is out. */
    private static void receiverWithoutBoard() {
        Orbithouse o = Check.near();
        Check.doneAs(o, 0, 41, 2, 0);
        o.hang();
        o.begin(10);
        o.step(2);
        receiver(o, "ntlwa", 10, 1, 0, 0, 0);
        Orbithouse p = Check.near();
        p.sky(0, 48);
        p.drain(1000);
        tellInOrder(p, 18);
        p.window(20, 60, 9);
        int fast = Check.tellFast(p, 0);
        p.step(2);
        Check.same("out", p.board(), 'o');
        receiver(p, "nlwa", 0, 0, 0, 0);
        p.step(1);
        receiver(p, "nlwa", 0, 0, 1, 1);
        p.step(15);
        receiver(p, "nlwa", 0, 0, 1, 1);
        p.step(1);
        receiver(p, "nlwa", 0, 1, 1, 1);
        Check.same("gone", p.endOf(fast), -1);
    }

    /** "And the board runs or is stuck": one that is stuck takes frames of both sorts, and tells so. */
    private static void stuckBoardTakesFrames() {
        Orbithouse o = Check.near();
        Check.doneAs(o, 0, 33, 3);
        o.flip(2, 0, 1);
        o.flip(2, 0, 2);
        Check.doneAs(o, 0, 37);
        // Resetting, it takes none; the frame in order is not lost by that.
        int order = Check.tellInOrder(o, 0);
        int fast = Check.tellFast(o, 0);
        o.step(3);
        Check.same("resetting", o.board(), 's');
        receiver(o, "nwa", 0, 1, 1);
        Check.same("gone", o.endOf(fast), -1);
        int came = o.ground('d');
        o.step(1);
        Check.same("stuck", o.board(), 'k');
        receiver(o, "nwa", 0, 0, 1);
        o.step(1);
        ground(o, "dsm", came + 1, 1, 0);
        o.step(1);
        receiver(o, "nwa", 1, 0, 0);
        Check.same("done", o.endOf(order), 0);
        o.step(1);
        ground(o, "s", 0);
        int[] orders = Check.together(o, Check.times(9, 0));
        o.step(1);
        Check.same("seven wait", o.parameter(6), 7);
        Check.same("the eighth waits", o.endOf(orders[7]), -2);
        Check.same("the ninth is gone", o.endOf(orders[8]), -1);
    }

    /** "Else the first one that is fast; else the first one of SENT that is marked". */
    private static void fastAheadOfMarked() {
        Orbithouse o = Check.near();
        deaf(o, true);
        o.window(5, 5, 9);
        tellInOrder(o, 2);
        o.step(7);
        // The timer marked both at T 7, and the first one was sent.
        ground(o, "smrcu", 2, 1, 1, 5, 3);
        Check.tellFast(o, 0);
        o.step(1);
        // A fast one leaves the timer as it goes, and the marks.
        ground(o, "smcuf", 2, 1, 4, 4, 0);
        o.step(1);
        ground(o, "smcu", 2, 0, 5, 5);
    }

    /** "(turn - TURN) modulo 256 is not 1 to 100, nothing": 0, as the same frame comes twice. */
    private static void controlComesTwice() {
        Orbithouse o = Check.near();
        o.begin(10);
        int order = Check.tellInOrder(o, 0);
        o.link(true, 1, 0, 0, 9, 0);
        o.link(false, 1, 0, 0, 0, 0);
        // The frame down is sent ahead of it, by four DRAWS.
        o.seed(Check.seedFor(new int[] {10, 10, 10, 10, 10, 10, 10, 5, 10},
                new int[] {-1, -1, -1, -1, -1, -1, 8, 4, -1}));
        o.step(1);
        o.link(true, 1, 0, 0, 0, 0);
        o.step(1);
        receiver(o, "nt", 10, 1);
        o.step(2);
        receiver(o, "nt", 11, 1);
        Check.same("done", o.endOf(order), 0);
        o.step(3);
        Check.same("T", o.parameter(0), 7);
        receiver(o, "nt", 11, 1);
        o.step(5);
        receiver(o, "nt", 11, 1);
        Check.same("active", o.state(), 'a');
    }

    /** The same, 255: an old control frame comes behind a newer one. */
    private static void oldControlComesLate() {
        Orbithouse o = Check.near();
        o.begin(10);
        o.link(true, 1, 0, 0, 9, 0);
        o.seed(Check.seedFor(new int[] {10, 10, 10, 10, 10, 10, 10, 5, 10},
                new int[] {-1, -1, -1, -1, -1, -1, 0, 4, -1}));
        o.step(1);
        o.link(true, 1, 0, 0, 0, 0);
        o.step(2);
        receiver(o, "nt", 10, 1);
        Check.same("turn", o.begin(20), 2);
        o.step(2);
        receiver(o, "nt", 20, 2);
        o.step(2);
        Check.same("T", o.parameter(0), 7);
        receiver(o, "nt", 20, 2);
        o.step(3);
        receiver(o, "nt", 20, 2);
        ground(o, "nt", 20, 2);
    }

    /** Turns go round modulo 256 for begin() and unlock() alike. */
    private static void turnsOfUnlocking() {
        Orbithouse o = Check.near();
        for (int i = 1; i <= 255; i++) {
            o.begin(0);
            o.step(3);
        }
        ground(o, "t", 255);
        receiver(o, "t", 255);
        o.window(20, 60, 9);
        tellInOrder(o, 18);
        o.step(1);
        deaf(o, true);
        o.step(16);
        deaf(o, false);
        o.step(2);
        Check.same("locked", o.state(), 'l');
        Check.same("255 and 1", o.unlock(), 0);
        o.step(2);
        receiver(o, "nlt", 0, 0, 0);
        o.step(1);
        Check.same("active", o.state(), 'a');
        o.step(40);
        receiver(o, "n", 18);
    }

    /** "A time, 20 at first; a limit, 3 at first". */
    private static void timerByDefault() {
        Orbithouse o = Check.near();
        deaf(o, true);
        tellInOrder(o, 1);
        o.step(1);
        for (int tries = 0; tries <= 3; tries++) {
            ground(o, "crusm", 20, tries, tries + 1, 1, 0);
            o.step(19);
            ground(o, "crusm", 1, tries, tries + 1, 1, 0);
            Check.same("state", o.state(), 'a');
            o.step(1);
        }
        ground(o, "crusm", 0, 4, 4, 1, 0);
        Check.same("given up", o.state(), 's');
        // Five at first: the window.
        Orbithouse p = Check.near();
        deaf(p, true);
        tellInOrder(p, 6);
        p.step(10);
        ground(p, "swu", 5, 1, 5);
    }

    /** "A time, 5 to 60", "a limit, 1 to 9", "if it is above the limit". */
    private static void timesAndLimits() {
        for (int time : new int[] {5, 6, 60}) {
            for (int limit : new int[] {1, 2, 9}) {
                Orbithouse o = Check.near();
                deaf(o, true);
                o.window(1, time, limit);
                tellInOrder(o, 2);
                o.step(1);
                for (int tries = 0; tries < limit; tries++) {
                    ground(o, "crs", time, tries, 1);
                    o.step(time - 1);
                    ground(o, "crs", 1, tries, 1);
                    o.step(1);
                }
                ground(o, "crsmu", time, limit, 1, 0, limit + 1);
                o.step(time - 1);
                Check.same("as many as the limit", o.state(), 'a');
                o.step(1);
                Check.same("above the limit", o.state(), 's');
                ground(o, "crsmuw", 0, limit + 1, 1, 0, limit + 1, 1);
            }
        }
    }

    private static void controlTimesAndLimits() {
        for (int time : new int[] {5, 60}) {
            for (int limit : new int[] {1, 9}) {
                Orbithouse o = Check.near();
                deaf(o, true);
                o.window(5, time, limit);
                o.begin(63);
                // Without a PASS it stays marked, and the timer, 0 yet, counts no tries.
                o.sky(96, 0);
                o.step(time + 3);
                ground(o, "cru", 0, 0, 0);
                o.sky(96, 48);
                o.step(1);
                ground(o, "cru", time, 0, 1);
                Check.go(o, time * limit);
                ground(o, "cru", time, limit, limit + 1);
                o.step(time - 1);
                Check.same("as many as the limit", o.state(), 'c');
                o.step(1);
                Check.same("above the limit", o.state(), 's');
                ground(o, "cru", 0, limit + 1, limit + 1);
                Check.same("SENT is empty", o.resume(), 0);
                Check.same("it was 'c'", o.state(), 'c');
                ground(o, "cr", 0, 0);
                o.step(1);
                ground(o, "cru", time, 0, limit + 2);
            }
        }
    }

    /** "A window, 1 to 20", "SENT has fewer than the window". */
    private static void windowEdges() {
        for (int window : new int[] {1, 2, 19, 20}) {
            Orbithouse o = Check.near();
            deaf(o, true);
            o.window(window, 5, 1);
            tellInOrder(o, 24);
            o.step(window);
            ground(o, "swnum", window, 24 - window, window, window, 0);
            Check.same("the last of SENT", o.sentAt(window - 1, 'n'), window - 1);
            Check.refused("one behind it", IndexOutOfBoundsException.class, o, () -> o.sentAt(window, 'n'));
            Check.same("sound", o.isSound(), true);
            o.step(1);
            ground(o, "swnu", window, 24 - window, window, window);
            o.step(4);
            // All of SENT were marked, and the first one was sent.
            ground(o, "srum", window, 1, window + 1, window - 1);
            o.step(window - 1 + 5);
            Check.same("given up", o.state(), 's');
            Check.same("SENT as it goes on", o.resume(), window);
            ground(o, "smr", window, window, 0);
            deaf(o, false);
            o.step(80);
            receiver(o, "n", 24);
            ground(o, "sw", 0, 0);
        }
    }

    private static void windowShrinks() {
        Orbithouse o = Check.near();
        o.link(false, 9, 0, 0, 0, 0);
        Check.same("window", o.window(5, 60, 9), 5);
        tellInOrder(o, 10);
        o.step(5);
        ground(o, "sw", 5, 5);
        Check.same("window", o.window(3, 60, 9), 5);
        o.step(6);
        // The first word that tells NEXT 1 was sent at T 2.
        ground(o, "sw", 4, 5);
        o.step(1);
        ground(o, "sw", 3, 5);
        o.step(1);
        // 2 are fewer than 3: the next one is sent in the same tick.
        ground(o, "sw", 3, 4);
        o.step(60);
        receiver(o, "n", 10);
    }

    /** "If k is above 0, TRIES is 0, and the timer is the time." */
    private static void wordsEndTries() {
        Orbithouse o = Check.near();
        deaf(o, true);
        o.window(5, 7, 9);
        tellInOrder(o, 2);
        o.step(9);
        ground(o, "crsu", 7, 1, 2, 3);
        deaf(o, false);
        o.step(1);
        // The first one came, the second one is sent anew.
        ground(o, "crsu", 7, 1, 2, 4);
        receiver(o, "n", 1);
        o.step(1);
        // A word of the first one: the timer is the time, and then 1 less.
        ground(o, "crs", 6, 0, 1);
        receiver(o, "n", 2);
        o.step(1);
        // SENT is empty, and the timer stands.
        ground(o, "crs", 7, 0, 0);
        o.step(9);
        ground(o, "crs", 7, 0, 0);
    }

    /** k is 0: neither TRIES nor the timer change. */
    private static void wordsWithoutNews() {
        Orbithouse o = Check.near();
        deaf(o, true);
        o.window(5, 5, 9);
        tellInOrder(o, 1);
        o.step(6);
        int came = o.ground('d');
        ground(o, "cr", 5, 1);
        o.step(4);
        Check.same("words came", o.ground('d'), came + 4);
        ground(o, "cr", 1, 1);
        o.step(1);
        ground(o, "cr", 5, 2);
    }

    /** In the state 'c' a word makes TRIES 0. */
    private static void controlEndsTries() {
        Orbithouse o = Check.near();
        deaf(o, true);
        o.window(5, 5, 9);
        o.begin(5);
        o.step(11);
        ground(o, "cru", 5, 2, 3);
        deaf(o, false);
        o.step(1);
        receiver(o, "nt", 5, 1);
        ground(o, "cr", 4, 2);
        Check.same("not known yet", o.state(), 'c');
        o.step(1);
        ground(o, "cr", 4, 0);
        Check.same("known", o.state(), 'a');
        o.step(9);
        ground(o, "cr", 4, 0);
    }

    /** In 'l' and 's', and in 'a' without SENT, the timer stands; fast ones alone are sent. */
    private static void timerStandsStill() {
        Orbithouse o = Check.near();
        o.window(20, 60, 9);
        tellInOrder(o, 18);
        o.step(1);
        deaf(o, true);
        o.step(16);
        deaf(o, false);
        o.step(2);
        Check.same("locked", o.state(), 'l');
        int timer = o.ground('c');
        int sent = o.ground('u');
        o.step(70);
        ground(o, "cru", timer, 0, sent);
        Check.tellFast(o, 0);
        o.step(3);
        ground(o, "cru", timer, 0, sent + 1);
        Orbithouse p = Check.near();
        p.step(70);
        ground(p, "cr", 0, 0);
        Check.same("active", p.state(), 'a');
    }

    /** "A frame in order was sent in one of the 20 ticks ahead, or this one", also if it was sent again. */
    private static void beginAfterOneSentAgain() {
        Orbithouse o = Check.near();
        o.window(5, 5, 3);
        deaf(o, true);
        tellInOrder(o, 1);
        Check.refused("one waits", STATE, o, () -> o.begin(1));
        o.step(6);
        ground(o, "u", 2);
        deaf(o, false);
        Check.refused("SENT is not empty", STATE, o, () -> o.begin(1));
        o.step(2);
        ground(o, "s", 0);
        o.step(18);
        Check.same("T", o.parameter(0), 26);
        Check.refused("sent 20 ticks ahead", STATE, o, () -> o.begin(1));
        Check.refused("the range is looked at ahead", IllegalArgumentException.class, o, () -> o.begin(64));
        o.step(1);
        // A fast one does not matter.
        Check.tellFast(o, 0);
        Check.same("sent 21 ticks ahead", o.begin(63), 1);
        Check.refused("the state is 'c'", STATE, o, () -> o.begin(1));
        ground(o, "n", 63);
        o.step(1);
        tellInOrder(o, 2);
        o.step(6);
        receiver(o, "n", 1);
        ground(o, "n", 1);
        // A control frame is none in order: begin() may follow begin() at once.
        Orbithouse p = Check.near();
        p.begin(3);
        p.step(3);
        Check.same("again", p.begin(4), 2);
        p.step(3);
        tellInOrder(p, 1);
        p.step(1);
        Check.refused("this tick", STATE, p, () -> p.begin(5));
    }

    /** "None was marked by such a word in the 10 ticks ahead": not the 10th, but the 11th. */
    private static void tenTicksOfMarking() {
        Orbithouse o = Check.near();
        o.window(5, 60, 3);
        tellInOrder(o, 2);
        o.step(1);
        deaf(o, true);
        o.step(1);
        deaf(o, false);
        o.step(2);
        Check.same("T", o.parameter(0), 4);
        ground(o, "um", 3, 1);
        deaf(o, true);
        for (int t = 5; t <= 14; t++) {
            o.step(1);
            ground(o, "um", 4, 0);
        }
        o.step(1);
        Check.same("T", o.parameter(0), 15);
        ground(o, "umr", 5, 1, 0);
        // It counts from then on anew.
        for (int t = 16; t <= 25; t++) {
            o.step(1);
            ground(o, "um", 6, 0);
        }
        o.step(1);
        ground(o, "umr", 7, 1, 0);
    }

    /** "If TURN is not its turn, nothing": words of ahead of the control frame do not tell of SENT. */
    private static void otherTurnIsNoWord() {
        Orbithouse o = Check.near();
        o.link(false, 9, 0, 0, 0, 0);
        o.begin(7);
        o.step(1);
        o.link(true, 9, 0, 0, 0, 0);
        o.step(1);
        receiver(o, "nt", 7, 1);
        o.step(8);
        Check.same("T", o.parameter(0), 10);
        // The words of T 1 have come.
        ground(o, "d", 1);
        Check.same("not its turn", o.state(), 'c');
        o.step(1);
        ground(o, "d", 2);
        Check.same("its turn", o.state(), 'a');
    }

    /** "A frame up is sent in a PASS alone": the last tick of one, and the first of the next. */
    private static void passEdge() {
        Orbithouse o = Check.near();
        o.sky(96, 16);
        o.step(13);
        tellInOrder(o, 5);
        o.step(2);
        ground(o, "uw", 2, 3);
        o.step(1);
        Check.same("T", o.parameter(0), 16);
        ground(o, "uw", 2, 3);
        receiver(o, "n", 2);
        o.step(31);
        Check.same("T", o.parameter(0), 47);
        ground(o, "uwsr", 2, 3, 1, 1);
        o.step(1);
        Check.same("T", o.parameter(0), 48);
        ground(o, "uw", 3, 3);
    }

    /** "Any number": all six numbers and the KIND come as they were told. */
    private static void commandsComeAsTold() {
        int[] some = {Integer.MIN_VALUE, -1, 0, 1, 65536, Integer.MAX_VALUE};
        int[][] told = new int[7][7];
        for (int i = 1; i < 7; i++) {
            for (int j = 0; j < 7; j++) {
                told[i][j] = some[(i + j) % 6];
            }
        }
        Orbithouse o = Check.near();
        int[] orders = Check.together(o, told);
        o.step(1);
        Check.same("six wait", o.parameter(6), 6);
        for (int i = 0; i < 6; i++) {
            for (int j = 0; j < 7; j++) {
                Check.same("number " + j, o.queueAt(i, "kxyzuvw".charAt(j)), told[i + 1][j]);
            }
            Check.same("ORDER", o.queueAt(i, 'o'), orders[i + 1]);
            Check.same("of the ground", o.queueAt(i, 'f'), 'g');
        }
    }
}
