import java.util.EnumSet;
import java.util.Set;
import java.util.function.ToLongFunction;

/** Every call that is refused answers as the document says, and nothing has changed behind it. */
public final class RefusedTest {
    private static final int LEAST = Integer.MIN_VALUE;
    private static final int MOST = Integer.MAX_VALUE;
    private static final Set<State> ALL = EnumSet.allOf(State.class);
    private static final Set<State> NEW = EnumSet.of(State.NEW);
    private static final Set<State> FULL = EnumSet.of(State.FULL);
    private static final Set<State> WITHOUT_PUSHERS = EnumSet.of(State.NEW, State.BARE);
    private static final Set<State> LYING = EnumSet.of(State.NEW, State.BARE, State.LYING, State.FULL, State.EVENING);
    private static final Set<State> GOING = EnumSet.of(State.GOING, State.LATE);

    private static void refused(String call, Set<State> states, long due, ToLongFunction<NoonOnABarrow> asked) {
        for (State state : states) {
            Twins.refused(call, state, due, asked);
        }
    }

    private static long number(boolean so) {
        return so ? 1 : 0;
    }

    private static void house() {
        Due.sentence("A HOUSE: its number. NONE for others, or if there are 8.");
        for (int hill : new int[] {-1, 10, LEAST, MOST}) {
            refused("house(" + hill + ")", ALL, -1, x -> x.house(hill));
        }
        for (int hill = 0; hill <= 9; hill++) {
            int any = hill;
            refused("house(" + hill + ")", FULL, -1, x -> x.house(any));
        }
    }

    private static void lane() {
        Due.sentence("A LANE (0: none): true. False for others (unlike ones).");
        for (int length : new int[] {-1, 10, LEAST, MOST}) {
            refused("lane(0, 1, " + length + ")", ALL, 0, x -> number(x.lane(0, 1, length)));
        }
        for (int one : new int[] {-1, 8, LEAST, MOST}) {
            refused("lane(" + one + ", 0, 1)", ALL, 0, x -> number(x.lane(one, 0, 1)));
            refused("lane(0, " + one + ", 1)", ALL, 0, x -> number(x.lane(0, one, 1)));
            refused("lane(0, " + one + ", 0)", ALL, 0, x -> number(x.lane(0, one, 0)));
        }
        refused("lane to the first that isn't told", ALL, 0, x -> number(x.lane(0, x.about(0), 1)));
        refused("lane from the first that isn't told", ALL, 0, x -> number(x.lane(x.about(0), 0, 1)));
        for (int length : new int[] {0, 1, 9}) {
            refused("lane(0, 0, " + length + ")", ALL, 0, x -> number(x.lane(0, 0, length)));
            refused("lane(7, 7, " + length + ")", ALL, 0, x -> number(x.lane(7, 7, length)));
            refused("lane(0, 1, " + length + ")", NEW, 0, x -> number(x.lane(0, 1, length)));
        }
    }

    private static void pusher() {
        Due.sentence("A PUSHER: its number. NONE for others, or if there are 4.");
        for (int strength : new int[] {0, -1, 10, LEAST, MOST}) {
            refused("pusher(" + strength + ")", ALL, -1, x -> x.pusher(strength));
        }
        for (int strength = 1; strength <= 9; strength++) {
            int any = strength;
            refused("pusher(" + strength + ")", FULL, -1, x -> x.pusher(any));
        }
    }

    private static void push() {
        Due.sentence("PUSHED to a HOUSE: LEFT. NONE, if it can't be, and for others.");
        for (int house : new int[] {-1, 8, LEAST, MOST}) {
            refused("push(" + house + ", 0)", ALL, -1, x -> x.push(house, 0));
        }
        for (int pusher : new int[] {-1, 4, LEAST, MOST}) {
            refused("push(1, " + pusher + ")", ALL, -1, x -> x.push(1, pusher));
        }
        refused("push to the first that isn't told", ALL, -1, x -> x.push(x.about(0), 0));
        refused("push by the first that isn't told", ALL, -1, x -> x.push(1, x.about(1)));
        refused("push to where it is", ALL, -1, x -> x.push(x.barrow(0), 0));
        refused("push without a lane", EnumSet.of(State.LYING), -1, x -> x.push(3, 0));
        refused("push without a lane", FULL, -1, x -> x.push(4, 0));
        refused("push without pushers", WITHOUT_PUSHERS, -1, x -> x.push(1, 0));
        Due.sentence("PUSHED: THE BARROW, if it lies, from its HOUSE to one that a LANE leads to, by a PUSHER");
        refused("push on its way to where it goes", GOING, -1, x -> x.push(x.barrow(1), 0));
        refused("push on its way to another one", GOING, -1, x -> x.push(2, 0));
    }

    private static void tipMendMinute() {
        Due.sentence("TIPPED: true. False, if it lies.");
        refused("tip()", LYING, 0, x -> number(x.tip()));
        Due.sentence("MENDED: true. False, if WHEELS are 99.");
        refused("mend()", WITHOUT_PUSHERS, 0, x -> number(x.mend()));
        Due.sentence("MINUTES pass (1 .. 60): how many debts there are in these. NONE for others, or if not all can (nothing is done then).");
        for (int n : new int[] {0, -1, 61, LEAST, MOST}) {
            refused("minute(" + n + ")", ALL, -1, x -> x.minute(n));
        }
        for (int n : new int[] {30, 31, 59, 60}) {
            refused("minute(" + n + ") at 9970", EnumSet.of(State.EVENING), -1, x -> x.minute(n));
        }
        Due.sentence("MINUTE is one more (at 9999 none can pass).");
        for (int n : new int[] {1, 2, 60}) {
            refused("minute(" + n + ") at 9999", EnumSet.of(State.LATE), -1, x -> x.minute(n));
        }
    }

    private static void yearsAndUndo() {
        Due.sentence("YEARS: MINUTE. NONE for others, and without HOUSES.");
        for (int seed : new int[] {-1, 10000, LEAST, MOST}) {
            refused("years(" + seed + ", 1)", ALL, -1, x -> x.years(seed, 1));
        }
        for (int n : new int[] {0, -1, 31, LEAST, MOST}) {
            refused("years(0, " + n + ")", ALL, -1, x -> x.years(0, n));
        }
        refused("years(0, 1)", NEW, -1, x -> x.years(0, 1));
        refused("years(9999, 30)", NEW, -1, x -> x.years(9999, 30));
        Due.sentence("The latest STEP is taken back: how many can be yet. NONE: there is none.");
        refused("undo()", WITHOUT_PUSHERS, -1, NoonOnABarrow::undo);
    }

    private static void tape() {
        Due.sentence("NONE, and none come, if there would be more than 300.");
        refused("feed", EnumSet.of(State.FULL, State.EVENING), -1, x -> x.feed(MOST, LEAST, 0, -1, 0x20202020));
        Due.sentence("NONE, and nothing is done, if it has not so many, or n is below 0.");
        for (int n : new int[] {-1, 301, LEAST, MOST}) {
            refused("end(" + n + ")", ALL, -1, x -> x.end(n));
        }
        refused("end of one more than there are", ALL, -1, x -> x.end(x.about(9) + 1));
        Due.sentence("NONE: it has a FAULT; or (the tape stays) there are 4.");
        refused("text()", FULL, -1, NoonOnABarrow::text);
        Due.sentence("NONE for others, and ahead of any.");
        for (int what : new int[] {-1, 2, LEAST, MOST}) {
            refused("fault(" + what + ")", ALL, -1, x -> x.fault(what));
        }
        refused("fault(0)", WITHOUT_PUSHERS, -1, x -> x.fault(0));
        refused("fault(1)", WITHOUT_PUSHERS, -1, x -> x.fault(1));
    }

    private static void texts() {
        Due.sentence("THE TEXT (NONE: none): true. False for others.");
        for (int text : new int[] {-2, 4, LEAST, MOST}) {
            refused("by(" + text + ")", ALL, 0, x -> number(x.by(text)));
        }
        refused("by the first that isn't told", ALL, 0, x -> number(x.by(x.about(4))));
        Due.sentence("PLAYED by a TEXT: NONE: all is done; else the number of the CLAUSE that can't be. -2 for others.");
        for (int text : new int[] {-2, -1, 4, LEAST, MOST}) {
            refused("played(" + text + ")", ALL, -2, x -> x.played(text));
        }
        refused("played by the first that isn't told", ALL, -2, x -> x.played(x.about(4)));
        refused("played(1), of which the first deed can't be", FULL, 1, x -> x.played(1));
        refused("played(0) of laws alone", EnumSet.of(State.LYING, State.GOING, State.FULL), -1, x -> x.played(0));
        refused("played(3) of no clauses", FULL, -1, x -> x.played(3));
        refused("played(0), no minute can pass", EnumSet.of(State.LATE), 0, x -> x.played(0));
    }

    private static void readings() {
        Due.sentence("Of a HOUSE: 0 HILL, 1 PURSE, 2 PALE, 3 HOUR now, 4 earns now. -1000 for others.");
        Due.sentence("NONE for others (one and itself may be, its LANE is 0).");
        Due.sentence("hard now of pushing it from one HOUSE to another one by a PUSHER. NONE for others, and without a LANE.");
        for (int house : new int[] {-1, 8, LEAST, MOST}) {
            for (int what = 0; what < 5; what++) {
                int any = what;
                refused("of(" + house + ", " + what + ")", ALL, -1000, x -> x.of(house, any));
            }
            for (int what = 0; what < 3; what++) {
                int any = what;
                refused("two(" + house + ", 0, " + what + ")", ALL, -1, x -> x.two(house, 0, any));
                refused("two(0, " + house + ", " + what + ")", ALL, -1, x -> x.two(0, house, any));
            }
            refused("hard(" + house + ", 0, 0)", ALL, -1, x -> x.hard(house, 0, 0));
            refused("hard(0, " + house + ", 0)", ALL, -1, x -> x.hard(0, house, 0));
        }
        for (int what : new int[] {-1, 5, LEAST, MOST}) {
            refused("of(0, " + what + ")", ALL, -1000, x -> x.of(0, what));
        }
        for (int what : new int[] {-1, 3, LEAST, MOST}) {
            refused("two(0, 1, " + what + ")", ALL, -1, x -> x.two(0, 1, what));
        }
        for (int pusher : new int[] {-1, 4, LEAST, MOST}) {
            refused("hard(0, 1, " + pusher + ")", ALL, -1, x -> x.hard(0, 1, pusher));
        }
        refused("of the first that isn't told", ALL, -1000, x -> x.of(x.about(0), 1));
        refused("two of the first that isn't told", ALL, -1, x -> x.two(x.about(0), x.about(0), 0));
        refused("hard by the first that isn't told", ALL, -1, x -> x.hard(0, 1, x.about(1)));
        refused("hard to itself", ALL, -1, x -> x.hard(1, 1, 0));
    }

    private static void barrowAndBook() {
        Due.sentence("5 wears now (as LEFT is now; 0, if it lies). -2 for others.");
        for (int what : new int[] {-1, 6, LEAST, MOST}) {
            refused("barrow(" + what + ")", ALL, -2, x -> x.barrow(what));
        }
        Due.sentence("0 MINUTE, 1 HOUSE, 2 pence. -2 if there is none such, and for others.");
        for (int i : new int[] {-2, 30, LEAST, MOST}) {
            refused("book(" + i + ", 0)", ALL, -2, x -> x.book(i, 0));
        }
        for (int what : new int[] {-1, 3, LEAST, MOST}) {
            refused("book(0, " + what + ")", ALL, -2, x -> x.book(0, what));
        }
        refused("the first debt that isn't there", ALL, -2, x -> x.book(x.book(-1, 0), 0));
        refused("book(0, 0)", WITHOUT_PUSHERS, -2, x -> x.book(0, 0));
        Due.sentence("-2 for others.");
        for (int what : new int[] {-1, 10, LEAST, MOST}) {
            refused("about(" + what + ")", ALL, -2, x -> x.about(what));
        }
    }

    private static void whatComes() {
        Due.sentence("FORETOLD of a HOUSE: 0 PURSE, 1 PALE, 2 HOUR. -1000 for others.");
        for (int n : new int[] {0, -1, 61, LEAST, MOST}) {
            refused("foretold(" + n + ", 0, 0)", ALL, -1000, x -> x.foretold(n, 0, 0));
        }
        for (int house : new int[] {-1, 8, LEAST, MOST}) {
            refused("foretold(1, " + house + ", 0)", ALL, -1000, x -> x.foretold(1, house, 0));
        }
        for (int what : new int[] {-1, 3, LEAST, MOST}) {
            refused("foretold(60, 0, " + what + ")", ALL, -1000, x -> x.foretold(60, 0, what));
        }
        refused("foretold of the first that isn't told", ALL, -1000, x -> x.foretold(1, x.about(0), 0));
        Due.sentence("ARRIVES. NONE: none.");
        refused("arrives()", LYING, -1, NoonOnABarrow::arrives);
        refused("arrives() at 9999", EnumSet.of(State.LATE), -1, NoonOnABarrow::arrives);
    }

    private static void wantedAndFelt() {
        Due.sentence("WANTED: how many there are (house NONE: none any more). -2 for others, or if there are 8.");
        Due.sentence("FELT: how many there are (house NONE: none any more). -2 for others, or if there are 8.");
        for (int house : new int[] {-2, 8, LEAST, MOST}) {
            refused("want(" + house + ", 0)", ALL, -2, x -> x.want(house, 0));
            refused("feel(" + house + ", 0)", ALL, -2, x -> x.feel(house, 0));
        }
        for (int hour : new int[] {-1, 24, LEAST, MOST}) {
            refused("want(0, " + hour + ")", ALL, -2, x -> x.want(0, hour));
        }
        for (int warm : new int[] {-1, 100, LEAST, MOST}) {
            refused("feel(0, " + warm + ")", ALL, -2, x -> x.feel(0, warm));
        }
        refused("want of the first that isn't told", ALL, -2, x -> x.want(x.about(0), 0));
        refused("feel of the first that isn't told", ALL, -2, x -> x.feel(x.about(0), 0));
        refused("a 9th want", FULL, -2, x -> x.want(0, 12));
        refused("a 9th feel", FULL, -2, x -> x.feel(0, 0));
        Due.sentence("WEIGHT: true. False for others.");
        for (int house : new int[] {-1, 8, LEAST, MOST}) {
            refused("weight(" + house + ", 1)", ALL, 0, x -> number(x.weight(house, 1)));
        }
        for (int weight : new int[] {0, -1, 10, LEAST, MOST}) {
            refused("weight(0, " + weight + ")", ALL, 0, x -> number(x.weight(0, weight)));
        }
        refused("weight of the first that isn't told", ALL, 0, x -> number(x.weight(x.about(0), 9)));
    }

    private static void routes() {
        Due.sentence("-2: none (without HOUSES, too), there is none such, and for others.");
        for (int i : new int[] {-2, 72, LEAST, MOST}) {
            refused("route(" + i + ")", ALL, -2, x -> x.route(i));
        }
        refused("route(-1)", NEW, -2, x -> x.route(-1));
        refused("route(0)", NEW, -2, x -> x.route(0));
        refused("route(0) of no lanes", EnumSet.of(State.BARE), -2, x -> x.route(0));
        Due.sentence("-3: none, there is none such, and for others.");
        for (int house : new int[] {-1, 8, LEAST, MOST}) {
            refused("least(" + house + ", 0, -2)", ALL, -3, x -> x.least(house, 0, -2));
        }
        for (int pusher : new int[] {-1, 4, LEAST, MOST}) {
            refused("least(0, " + pusher + ", -2)", ALL, -3, x -> x.least(0, pusher, -2));
        }
        for (int i : new int[] {-3, 8, LEAST, MOST}) {
            refused("least(0, 0, " + i + ")", ALL, -3, x -> x.least(0, 0, i));
        }
        refused("least to where it is without pushers", WITHOUT_PUSHERS, -3, x -> x.least(0, 0, -2));
        for (int i = -2; i < 2; i++) {
            int any = i;
            refused("least(1, 0, " + i + ") on its way", GOING, -3, x -> x.least(1, 0, any));
            refused("least(3, 0, " + i + ") without a way", EnumSet.of(State.LYING), -3, x -> x.least(3, 0, any));
        }
    }

    private static void counsel() {
        Due.sentence("AGENDA: who is left. NONE for others.");
        for (int n : new int[] {0, -1, 9, LEAST, MOST}) {
            refused("agenda(0, " + n + ")", ALL, -1, x -> x.agenda(0, n));
        }
        for (int row : new int[] {-1, 8, 9, 10, LEAST, MOST}) {
            refused("agenda(" + row + ", 1)", ALL, -1, x -> x.agenda(row, 1));
        }
        for (int row : new int[] {0, 11, 100, 18, 91, -10}) {
            refused("agenda(" + row + ", 2)", ALL, -1, x -> x.agenda(row, 2));
        }
        refused("agenda(176543210, 8)", ALL, -1, x -> x.agenda(176543210, 8));
        refused("agenda of the first that isn't told", ALL, -1, x -> x.agenda(x.about(0), 1));
        Due.sentence("FAIR: to whom the n-th goes. NONE for others, and without HOUSES.");
        for (int n : new int[] {0, -1, 10, LEAST, MOST}) {
            refused("fair(" + n + ")", ALL, -1, x -> x.fair(n));
        }
        refused("fair(1)", NEW, -1, x -> x.fair(1));
        refused("fair(9)", NEW, -1, x -> x.fair(9));
        Due.sentence("A WATCH (bits). NONE for others (more watchers than HOUSES, too).");
        for (int n : new int[] {0, -1, 4, LEAST, MOST}) {
            refused("watch(" + n + ", 1)", ALL, -1, x -> x.watch(n, 1));
        }
        for (int d : new int[] {-1, 10, LEAST, MOST}) {
            refused("watch(1, " + d + ")", ALL, -1, x -> x.watch(1, d));
        }
        refused("watch(3, 9) of two", EnumSet.of(State.BARE), -1, x -> x.watch(3, 9));
        refused("watch(1, 0) of none", NEW, -1, x -> x.watch(1, 0));
        Due.sentence("THIEVES. NONE without HOUSES.");
        refused("thieves()", NEW, -1, NoonOnABarrow::thieves);
        Due.sentence("WINNER. NONE: none.");
        refused("winner()", NEW, -1, NoonOnABarrow::winner);
        Due.sentence("NEXT YARD. NONE: none.");
        refused("yard()", NEW, -1, NoonOnABarrow::yard);
    }

    public static void main(String[] args) {
        house();
        lane();
        pusher();
        push();
        tipMendMinute();
        yearsAndUndo();
        tape();
        texts();
        readings();
        barrowAndBook();
        whatComes();
        wantedAndFelt();
        routes();
        counsel();
        Due.close();
    }
}
