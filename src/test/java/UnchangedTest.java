import java.util.function.ToLongFunction;

/** What only asks changes nothing, whatever it answers; and the states that this is tried in are what they say. */
public final class UnchangedTest {
    private static void unchanged(String call, ToLongFunction<NoonOnABarrow> asked) {
        for (State state : State.values()) {
            Twins.unchanged(call, state, asked);
            NoonOnABarrow x = state.come();
            long first = asked.applyAsLong(x);
            Due.is(call + " asked again of " + state, asked.applyAsLong(x), first);
        }
    }

    private static void states() {
        int[][] about = {
            {0, 0, 0, 89, 0, -1, 0, 0, 0, 0},
            {2, 0, 0, 89, 0, -1, 0, 0, 0, 0},
        };
        for (int what = 0; what < 10; what++) {
            Due.is("NEW about(" + what + ")", State.NEW.come().about(what), about[0][what]);
            Due.is("BARE about(" + what + ")", State.BARE.come().about(what), about[1][what]);
        }
        NoonOnABarrow x = State.LYING.come();
        Due.is("LYING left", x.barrow(2), 0);
        Due.so("LYING worn", x.barrow(4) < 99, true);
        Due.so("LYING has debts", x.book(-1, 0) > 0, true);
        Due.so("LYING has steps", x.about(6) > 0, true);
        Due.is("LYING has a fault", x.fault(0), 4);
        x = State.GOING.come();
        Due.so("GOING left", x.barrow(2) > 0, true);
        Due.is("GOING to", x.barrow(1), 1);
        x = State.FULL.come();
        int[] full = {8, 4, -1, -1, 4, 0, 30, 8, 8, 300};
        for (int what = 0; what < 10; what++) {
            if (what != 2 && what != 3) {
                Due.is("FULL about(" + what + ")", x.about(what), full[what]);
            }
        }
        Due.is("FULL debts", x.book(-1, 0), 30);
        Due.is("FULL left", x.barrow(2), 0);
        x = State.EVENING.come();
        Due.is("EVENING minute", x.about(2), 9970);
        Due.is("EVENING tape", x.about(9), 281);
        Due.is("EVENING left", x.barrow(2), 0);
        x = State.LATE.come();
        Due.is("LATE minute", x.about(2), 9999);
        Due.so("LATE left", x.barrow(2) > 0, true);
    }

    private static void readings() {
        Due.sentence("Nothing is promised beyond the answers and state changes described above");
        for (int what = 0; what < 10; what++) {
            int any = what;
            unchanged("about(" + what + ")", x -> x.about(any));
            unchanged("barrow(" + what + ")", x -> x.barrow(any));
            unchanged("of(1, " + what + ")", x -> x.of(1, any));
            unchanged("two(1, 0, " + what + ")", x -> x.two(1, 0, any));
            unchanged("book(0, " + what + ")", x -> x.book(0, any));
            unchanged("fault(" + what + ")", x -> x.fault(any));
        }
        unchanged("book(-1, 0)", x -> x.book(-1, 0));
        unchanged("hard(0, 1, 0)", x -> x.hard(0, 1, 0));
    }

    private static void whatFollows() {
        Due.sentence("All that follows changes nothing.");
        for (int what = 0; what < 3; what++) {
            int any = what;
            unchanged("foretold(1, 0, " + what + ")", x -> x.foretold(1, 0, any));
            unchanged("foretold(60, 1, " + what + ")", x -> x.foretold(60, 1, any));
        }
        unchanged("arrives()", NoonOnABarrow::arrives);
        unchanged("fitting()", NoonOnABarrow::fitting);
        unchanged("winner()", NoonOnABarrow::winner);
        unchanged("lost()", NoonOnABarrow::lost);
        unchanged("yard()", NoonOnABarrow::yard);
        unchanged("thieves()", NoonOnABarrow::thieves);
        for (int i = -2; i < 3; i++) {
            int any = i;
            unchanged("route(" + i + ")", x -> x.route(any));
            unchanged("least(0, 0, " + i + ")", x -> x.least(0, 0, any));
            unchanged("least(2, 1, " + i + ")", x -> x.least(2, 1, any));
        }
        unchanged("agenda(10, 2)", x -> x.agenda(10, 2));
        unchanged("agenda(76543210, 8)", x -> x.agenda(76543210, 8));
        unchanged("fair(1)", x -> x.fair(1));
        unchanged("fair(9)", x -> x.fair(9));
        unchanged("watch(1, 0)", x -> x.watch(1, 0));
        unchanged("watch(3, 9)", x -> x.watch(3, 9));
    }

    public static void main(String[] args) {
        states();
        readings();
        whatFollows();
        Due.close();
    }
}
