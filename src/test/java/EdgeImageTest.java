/** Each sentence on THE IMAGE, on going back and on what all is about, at its edges. */
public final class EdgeImageTest {
    private static NoonOnABarrow imaged(State state) {
        NoonOnABarrow x = state.come();
        x.image();
        return x;
    }

    /** All that can be otherwise is made so, but for the tape and the latest FAULT. */
    private static NoonOnABarrow changedAndBack(State state, int times) {
        NoonOnABarrow x = imaged(state);
        for (int time = 0; time < times; time++) {
            x.house(6);
            x.house(7);
            x.lane(0, 1, 5);
            x.lane(1, 2, 0);
            x.lane(6, 7, 0);
            x.lane(0, 7, 3);
            x.pusher(8);
            for (int h = 0; h < 8; h++) {
                x.weight(h, 1 + h);
            }
            x.want(-1, 0);
            x.want(0, 5);
            x.feel(-1, 0);
            x.feel(0, 6);
            x.by(x.about(5) == 0 ? -1 : 0);
            x.push(1, 0);
            x.push(7, 0);
            x.minute(9);
            x.years(123, 30);
            x.tip();
            x.mend();
            x.minute(25);
            x.undo();
            x.back();
        }
        return x;
    }

    private static void allIsAsItWas() {
        Due.sentence("All is as at THE IMAGE again (it stays): MINUTE.");
        for (State state : State.values()) {
            String[] due = Twins.seen(() -> imaged(state));
            for (int times = 1; times <= 2; times++) {
                int t = times;
                String[] got = Twins.seen(() -> changedAndBack(state, t));
                for (int look = 0; look < due.length; look++) {
                    Due.same("look " + look + " behind going back " + times + " times to " + state, got[look], due[look]);
                }
            }
            NoonOnABarrow x = imaged(state);
            int minute = x.about(2);
            x.minute(1);
            x.undo();
            Due.is("back() answers the minute", x.back(), minute);
            Due.is("again", x.back(), minute);
        }
    }

    private static void imageAnswersMinute() {
        Due.sentence("THE IMAGE is as all is now: MINUTE.");
        NoonOnABarrow x = new NoonOnABarrow();
        Due.is("0", x.image(), 0);
        x.minute(60);
        Due.is("60", x.image(), 60);
        x.minute(3);
        Due.is("back", x.back(), 60);
        x.minute(1);
        Due.is("61", x.image(), 61);
        x.minute(1);
        Due.is("the later one", x.back(), 61);
        Due.is("9999", State.LATE.come().image(), 9999);
        for (State state : State.values()) {
            NoonOnABarrow y = state.come();
            int steps = y.about(6);
            y.image();
            Due.is("an image is no step", y.about(6), steps);
        }
    }

    private static void stepsAsWell() {
        Due.sentence("AN IMAGE: all as it is, STEPS as well, but the tape and the latest FAULT");
        for (int passed : new int[] {0, 1, 29, 30, 31, 45, 60}) {
            NoonOnABarrow x = new NoonOnABarrow();
            x.house(0);
            x.minute(Math.max(1, passed));
            if (passed == 0) {
                x.undo();
            }
            int steps = Math.min(30, passed);
            x.image();
            x.minute(13);
            for (int i = 0; i < 20; i++) {
                x.undo();
            }
            x.years(5, 5);
            x.back();
            Due.is("steps of " + passed, x.about(6), steps);
            for (int i = steps - 1; i >= 0; i--) {
                Due.is("undo", x.undo(), i);
                Due.is("minute", x.about(2), passed - steps + i);
                Due.is("purse", x.of(0, 1), 12 * (passed - steps + i));
            }
            Due.is("no more", x.undo(), -1);
            Due.is("back again", x.back(), passed);
            Due.is("steps again", x.about(6), steps);
        }
    }

    private static void tapeAndFaultStay() {
        Due.sentence("but the tape and the latest FAULT");
        NoonOnABarrow x = new NoonOnABarrow();
        Due.text(x, "tip");
        Due.feed(x, "house 4;");
        x.image();
        x.back();
        Due.is("8 bytes", x.about(9), 8);
        Due.is("the fault", x.fault(0), 1);
        x.end(5);
        x.back();
        Due.is("5 bytes", x.about(9), 5);
        Due.feed(x, " 10;");
        Due.is("read", x.text(), -1);
        x.back();
        Due.is("0 bytes", x.about(9), 0);
        Due.is("the later fault", x.fault(0), 2);
        Due.is("its place", x.fault(1), 6);
        Due.feed(x, "x".repeat(300));
        x.back();
        Due.is("300 bytes", x.about(9), 300);
        x.end(0);
        Due.is("a text without", x.text(), 0);
        x.back();
        Due.is("no fault now", x.fault(0), 0);
        Due.is("no place now", x.fault(1), -1);
        Due.is("though it is gone", x.about(4), 0);
    }

    private static void textsToldBehindAreGone() {
        Due.sentence("TEXTS told behind it are gone behind going back.");
        for (int told = 0; told <= 4; told++) {
            NoonOnABarrow x = new NoonOnABarrow();
            x.house(0);
            for (int i = 0; i < told; i++) {
                Due.text(x, "earns " + (40 + i) + ";");
            }
            x.by(told - 1);
            x.image();
            for (int i = told; i < 4; i++) {
                Due.is("told behind", Due.text(x, "earns " + (50 + i) + ";"), i);
            }
            x.by(3);
            x.back();
            Due.is("how many", x.about(4), told);
            Due.is("which rules", x.about(5), told - 1);
            Due.is("its law", x.of(0, 4), told == 0 ? 12 : 39 + told);
            for (int i = told; i < 4; i++) {
                Due.so("by", x.by(i), false);
                Due.is("played", x.played(i), -2);
            }
            if (told < 4) {
                Due.is("the number is free again", Due.text(x, "earns 60;"), told);
                x.by(told);
                Due.is("its own law", x.of(0, 4), 60);
                x.back();
                Due.is("which rules", x.about(5), told - 1);
            }
            for (int i = 0; i < told; i++) {
                Due.so("by", x.by(i), true);
                Due.is("as told ahead", x.of(0, 4), 40 + i);
            }
        }
    }

    private static void aFullOne() {
        Due.sentence("THE IMAGE is as all is now: MINUTE.");
        NoonOnABarrow x = State.FULL.come();
        x.image();
        int hills = x.of(7, 0);
        int lane = x.two(7, 0, 1);
        int purse = x.of(7, 1);
        int pale = x.of(7, 2);
        x.lane(7, 0, 1);
        x.lane(7, 6, 1);
        x.minute(1);
        x.want(-1, 0);
        x.feel(-1, 0);
        for (int i = 0; i < 8; i++) {
            x.want(0, 12);
            x.feel(0, 0);
        }
        x.back();
        Due.is("hill of the last", x.of(7, 0), hills);
        Due.is("lane of the last", x.two(7, 0, 1), lane);
        Due.is("far of the last", x.two(7, 0, 0), 8);
        Due.is("lane of the last", x.two(7, 6, 1), 7);
        Due.is("purse of the last", x.of(7, 1), purse);
        Due.is("pale of the last", x.of(7, 2), pale);
        Due.is("no place fits", x.fitting(), 0);
        Due.is("strength of the last", x.push(7, 3), 8);
        x.minute(1);
        Due.is("strength of the last", x.barrow(2), 5);
        x.back();
        NoonOnABarrow eight = new NoonOnABarrow();
        for (int i = 0; i < 8; i++) {
            eight.house(0);
        }
        for (int i = 0; i < 7; i++) {
            eight.want(7, 12);
            eight.feel(7, 30);
        }
        eight.want(0, 0);
        eight.feel(7, 30);
        eight.image();
        Due.is("fits", eight.fitting(), 128);
        eight.want(-1, 0);
        eight.feel(-1, 0);
        for (int i = 0; i < 8; i++) {
            eight.want(0, 12);
            eight.feel(0, 30);
        }
        Due.is("fits", eight.fitting(), 1);
        eight.back();
        Due.is("fits again", eight.fitting(), 128);
        Due.is("may be again", eight.lost(), 128);
    }

    /** Going back to none and telling anew: what was told ahead is not found again. */
    private static void toldAnew() {
        Due.sentence("No HOUSES; THE IMAGE is this.");
        NoonOnABarrow x = State.FULL.come();
        NoonOnABarrow fresh = new NoonOnABarrow();
        x.back();
        for (int i = 0; i < 8; i++) {
            Due.is("the image of FULL has its houses", x.of(i, 0), 9 - i);
        }
        Due.is("but no steps", x.about(6), 0);
        Due.is("and no debts", x.book(-1, 0), 0);
        for (int i = 0; i < 8; i++) {
            fresh.house(i);
            fresh.weight(i, 9);
            fresh.lane(0, i, 9);
        }
        for (int i = 0; i < 4; i++) {
            fresh.pusher(9);
        }
        fresh.push(1, 3);
        fresh.minute(60);
        fresh.back();
        Due.is("no houses", fresh.about(0), 0);
        for (int i = 0; i < 8; i++) {
            Due.is("anew", fresh.house(3), i);
            Due.is("hill", fresh.of(i, 0), 3);
            Due.is("purse", fresh.of(i, 1), 0);
            Due.is("pale", fresh.of(i, 2), 0);
            Due.is("lane", fresh.two(0, i, 1), 0);
            Due.is("far", fresh.two(0, i, 0), i == 0 ? 0 : 99);
        }
        Due.is("weight", fresh.fair(8), 7);
        for (int i = 0; i < 4; i++) {
            Due.is("pusher anew", fresh.pusher(1 + i), i);
        }
        fresh.lane(0, 1, 5);
        fresh.push(1, 3);
        fresh.minute(1);
        Due.is("its own strength", fresh.barrow(2), 11);
    }

    private static void aboutNumbers() {
        Due.sentence("0 HOUSES, 1 PUSHERS, 2 MINUTE, 3 X, 4 TEXTS, 5 THE TEXT (NONE), 6 STEPS that can be taken back, 7 WANTED, 8 FELT, 9 bytes of the tape. -2 for others.");
        NoonOnABarrow x = new NoonOnABarrow();
        int[] due = {0, 0, 0, 89, 0, -1, 0, 0, 0, 0};
        for (int turn = 0; turn <= 10; turn++) {
            for (int what = 0; what < 10; what++) {
                Due.is("about(" + what + ") behind " + turn, x.about(what), due[what]);
            }
            Due.is("about(-1)", x.about(-1), -2);
            Due.is("about(10)", x.about(10), -2);
            switch (turn) {
                case 0: x.house(0); due[0] = 1; break;
                case 1: x.pusher(1); due[1] = 1; break;
                case 2: x.minute(4); due[2] = 4; due[6] = 4; break;
                case 3: x.years(0, 1); due[2] = 5; due[3] = 25380; due[6] = 5; break;
                case 4: Due.text(x, "tip;"); due[4] = 1; break;
                case 5: x.by(0); due[5] = 0; break;
                case 6: x.want(0, 1); due[7] = 1; break;
                case 7: x.feel(0, 1); x.feel(0, 2); due[8] = 2; break;
                case 8: x.feed(0, 0, 0, 0, 0); due[9] = 20; break;
                default: x.undo(); due[2] = 4; due[3] = 89; due[6] = 4; turn = 10; break;
            }
        }
        for (int what = 0; what < 10; what++) {
            Due.is("about(" + what + ") at last", x.about(what), due[what]);
        }
    }

    public static void main(String[] args) {
        allIsAsItWas();
        imageAnswersMinute();
        stepsAsWell();
        tapeAndFaultStay();
        textsToldBehindAreGone();
        aFullOne();
        toldAnew();
        aboutNumbers();
        Due.close();
    }
}
