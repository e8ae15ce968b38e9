import java.util.EnumMap;
import java.util.Map;
import java.util.function.Supplier;
import java.util.function.ToLongFunction;

/**
 * Holds that a call changes nothing: of two objects that have come the same way one is asked it, and all that can be
 * seen of both is alike then, in what is asked, in what is taken back and in what THE IMAGE brings back.
 * Each look is at an object of its own, so that none is used for more than 512 calls.
 */
final class Twins {
    private static final int LOOKS = 10;
    private static final Map<State, String[]> SEEN = new EnumMap<>(State.class);

    private Twins() {
    }

    /** The call answers as due, and changes nothing. */
    static void refused(String call, State state, long due, ToLongFunction<NoonOnABarrow> asked) {
        Due.is(call + " of " + state, asked.applyAsLong(state.come()), due);
        unchanged(call, state, asked);
    }

    static void unchanged(String call, State state, ToLongFunction<NoonOnABarrow> asked) {
        String[] seen = SEEN.computeIfAbsent(state, Twins::seen);
        for (int look = 0; look < LOOKS; look++) {
            NoonOnABarrow x = state.come();
            asked.applyAsLong(x);
            Due.same("look " + look + " behind " + call + " of " + state, look(look, x), seen[look]);
        }
    }

    private static String[] seen(State state) {
        return seen(state::come);
    }

    /** What can be seen of objects that have come this way. */
    static String[] seen(Supplier<NoonOnABarrow> way) {
        String[] seen = new String[LOOKS];
        for (int look = 0; look < LOOKS; look++) {
            seen[look] = look(look, way.get());
        }
        return seen;
    }

    private static String look(int which, NoonOnABarrow x) {
        StringBuilder b = new StringBuilder();
        switch (which) {
            case 0: ofAll(x, b); break;
            case 1: ofPairs(x, b); break;
            case 2: ofPushers(x, b); break;
            case 3: ofWhatIsAsked(x, b); break;
            case 4: ofStepsByTheBarrow(x, b); break;
            case 5: ofStepsByPurses(x, b); break;
            case 6: ofTheTape(x, b); break;
            case 7: ofTexts(x, b); break;
            case 8: ofTheImage(x, b); break;
            default: ofTheImagesSteps(x, b); break;
        }
        return b.toString();
    }

    private static void put(StringBuilder b, long answer) {
        b.append(answer).append(' ');
    }

    private static void ofAll(NoonOnABarrow x, StringBuilder b) {
        for (int what = 0; what < 10; what++) {
            put(b, x.about(what));
        }
        put(b, x.fault(0));
        put(b, x.fault(1));
        for (int what = 0; what < 6; what++) {
            put(b, x.barrow(what));
        }
        for (int house = 0; house < 8; house++) {
            for (int what = 0; what < 5; what++) {
                put(b, x.of(house, what));
            }
        }
        for (int i = -1; i < 30; i++) {
            for (int what = 0; what < 3; what++) {
                put(b, x.book(i, what));
            }
        }
    }

    private static void ofPairs(NoonOnABarrow x, StringBuilder b) {
        for (int one = 0; one < 8; one++) {
            for (int other = 0; other < 8; other++) {
                for (int what = 0; what < 3; what++) {
                    put(b, x.two(one, other, what));
                }
                put(b, x.hard(one, other, 0));
            }
        }
    }

    private static void ofPushers(NoonOnABarrow x, StringBuilder b) {
        for (int house = 0; house < 8; house++) {
            for (int other = 0; other < 8; other++) {
                for (int pusher = 1; pusher < 4; pusher++) {
                    put(b, x.hard(house, other, pusher));
                }
            }
            for (int i = -2; i < 8; i++) {
                put(b, x.least(house, 0, i));
            }
        }
    }

    private static void ofWhatIsAsked(NoonOnABarrow x, StringBuilder b) {
        for (int house = 0; house < 8; house++) {
            for (int what = 0; what < 3; what++) {
                put(b, x.foretold(1, house, what));
                put(b, x.foretold(60, house, what));
            }
        }
        put(b, x.arrives());
        put(b, x.fitting());
        for (int i = -1; i < 20; i++) {
            put(b, x.route(i));
        }
        put(b, x.winner());
        put(b, x.agenda(10, 2));
        put(b, x.agenda(76543210, 8));
        for (int n = 1; n < 10; n++) {
            put(b, x.fair(n));
        }
        put(b, x.lost());
        put(b, x.yard());
        put(b, x.thieves());
        for (int n = 1; n < 4; n++) {
            for (int d = 0; d < 10; d++) {
                put(b, x.watch(n, d));
            }
        }
    }

    private static void ofStepsByTheBarrow(NoonOnABarrow x, StringBuilder b) {
        for (int i = 0; i < 31; i++) {
            put(b, x.undo());
            put(b, x.about(2));
            put(b, x.about(3));
            for (int what = 0; what < 5; what++) {
                put(b, x.barrow(what));
            }
        }
    }

    private static void ofStepsByPurses(NoonOnABarrow x, StringBuilder b) {
        for (int i = 0; i < 31; i++) {
            put(b, x.undo());
            put(b, x.book(-1, 0));
            for (int house = 0; house < 4; house++) {
                put(b, x.of(house, 1));
                put(b, x.of(house, 2));
            }
        }
    }

    private static void ofTheTape(NoonOnABarrow x, StringBuilder b) {
        put(b, x.text());
        put(b, x.about(4));
        put(b, x.about(9));
        put(b, x.played(x.about(4) - 1));
        ofAll(x, b);
    }

    private static void ofTexts(NoonOnABarrow x, StringBuilder b) {
        for (int text = -1; text < 4; text++) {
            put(b, x.by(text) ? 1 : 0);
            put(b, x.of(0, 4));
            put(b, x.of(1, 4));
            put(b, x.hard(0, 1, 0));
            put(b, x.two(1, 0, 2));
            put(b, x.barrow(5));
        }
        for (int text = 0; text < 4; text++) {
            put(b, x.played(text));
        }
        ofAll(x, b);
    }

    private static void ofTheImage(NoonOnABarrow x, StringBuilder b) {
        put(b, x.back());
        ofAll(x, b);
        for (int one = 0; one < 8; one++) {
            for (int other = one + 1; other < 8; other++) {
                put(b, x.two(one, other, 1));
            }
        }
        put(b, x.route(-1));
        put(b, x.fitting());
        put(b, x.lost());
        put(b, x.fair(3));
    }

    private static void ofTheImagesSteps(NoonOnABarrow x, StringBuilder b) {
        x.back();
        ofStepsByTheBarrow(x, b);
        for (int what = 0; what < 10; what++) {
            put(b, x.about(what));
        }
    }
}
