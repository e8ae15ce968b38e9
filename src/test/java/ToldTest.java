/** Promises 1 to 4, 17, 18, 20: a new object, houses, lanes, pushers, and what is asked of them. */
public final class ToldTest {
    private static void newObject() {
        NoonOnABarrow x = new NoonOnABarrow();
        int[] about = {0, 0, 0, 89, 0, -1, 0, 0, 0, 0};
        for (int what = 0; what < about.length; what++) {
            Due.is("about(" + what + ") of a new one", x.about(what), about[what]);
        }
        int[] barrow = {0, -1, 0, -1, 99, 0};
        for (int what = 0; what < barrow.length; what++) {
            Due.is("barrow(" + what + ") of a new one", x.barrow(what), barrow[what]);
        }
        Due.is("book(-1, 0) of a new one", x.book(-1, 0), 0);
        Due.is("undo() of a new one", x.undo(), -1);
        Due.is("fault(0) ahead of any", x.fault(0), -1);
        Due.is("fault(1) ahead of any", x.fault(1), -1);
        x.house(3);
        x.minute(2);
        Due.is("back() to the new one", x.back(), 0);
        Due.is("about(0) as new", x.about(0), 0);
        Due.is("about(6) as new", x.about(6), 0);
    }

    private static void houses() {
        NoonOnABarrow x = new NoonOnABarrow();
        Due.is("house(-1)", x.house(-1), -1);
        Due.is("house(10)", x.house(10), -1);
        for (int i = 0; i < 8; i++) {
            Due.is("house", x.house(i == 0 ? 9 : i - 1), i);
        }
        Due.is("the 9th house", x.house(0), -1);
        Due.is("about(0)", x.about(0), 8);
        Due.is("of(0, 0)", x.of(0, 0), 9);
        Due.is("of(7, 0)", x.of(7, 0), 6);
        Due.is("of(7, 1)", x.of(7, 1), 0);
        Due.is("of(7, 2)", x.of(7, 2), 0);
        Due.is("of(8, 0)", x.of(8, 0), -1000);
        Due.is("of(-1, 0)", x.of(-1, 0), -1000);
        Due.is("of(0, -1)", x.of(0, -1), -1000);
        Due.is("of(0, 5)", x.of(0, 5), -1000);
        Due.is("no way is after noon", x.of(7, 3), 23);
        Due.is("earns at 23", x.of(7, 4), 1);
    }

    private static void lanes() {
        NoonOnABarrow x = new NoonOnABarrow();
        for (int i = 0; i < 4; i++) {
            x.house(0);
        }
        Due.so("lane(0, 1, 9)", x.lane(0, 1, 9), true);
        Due.so("lane(1, 2, 9)", x.lane(1, 2, 9), true);
        Due.so("lane(2, 2, 1)", x.lane(2, 2, 1), false);
        Due.so("lane(0, 1, -1)", x.lane(0, 1, -1), false);
        Due.so("lane(0, 1, 10)", x.lane(0, 1, 10), false);
        Due.so("lane(0, 4, 1)", x.lane(0, 4, 1), false);
        Due.so("lane(-1, 0, 1)", x.lane(-1, 0, 1), false);
        Due.is("both ways alike", x.two(1, 0, 1), 9);
        Due.is("two(0, 2, 0)", x.two(0, 2, 0), 18);
        Due.is("two(2, 0, 1)", x.two(2, 0, 1), 0);
        Due.is("no way", x.two(0, 3, 0), 99);
        Due.is("warm without a way", x.two(0, 3, 2), 0);
        Due.is("to itself", x.two(3, 3, 0), 0);
        Due.is("a lane to itself", x.two(3, 3, 1), 0);
        Due.is("hour held at 23", x.of(2, 3), 23);
        Due.so("a shorter one", x.lane(2, 0, 4), true);
        Due.is("round about", x.two(0, 1, 0), 9);
        Due.is("two(0, 2, 0) then", x.two(0, 2, 0), 4);
        Due.is("warm of 4", x.two(2, 0, 2), 10);
        Due.so("lane(0, 1, 2)", x.lane(0, 1, 2), true);
        Due.is("two(1, 2, 0)", x.two(1, 2, 0), 6);
        Due.so("none any more", x.lane(1, 0, 0), true);
        Due.is("two(0, 1, 1)", x.two(0, 1, 1), 0);
        Due.is("two(0, 1, 0)", x.two(0, 1, 0), 13);
        Due.so("none where there is none", x.lane(0, 3, 0), true);
        Due.is("two(0, 4, 0)", x.two(0, 4, 0), -1);
        Due.is("two(4, 0, 0)", x.two(4, 0, 0), -1);
        Due.is("two(0, 0, 3)", x.two(0, 0, 3), -1);
        Due.is("two(0, 0, -1)", x.two(0, 0, -1), -1);
    }

    private static void pushers() {
        NoonOnABarrow x = new NoonOnABarrow();
        x.house(9);
        x.house(0);
        x.lane(0, 1, 1);
        Due.is("pusher(0)", x.pusher(0), -1);
        Due.is("pusher(10)", x.pusher(10), -1);
        Due.is("hard without a pusher", x.hard(0, 1, 0), -1);
        for (int i = 0; i < 4; i++) {
            Due.is("pusher", x.pusher(i * 2 + 1), i);
        }
        Due.is("the 5th pusher", x.pusher(1), -1);
        Due.is("about(1)", x.about(1), 4);
        Due.is("hard is 1 at least", x.hard(0, 1, 0), 1);
        Due.is("hard uphill", x.hard(1, 0, 3), 12);
        Due.is("hard(0, 0, 0)", x.hard(0, 0, 0), -1);
        Due.is("hard(0, 1, 4)", x.hard(0, 1, 4), -1);
        Due.is("hard(0, 1, -1)", x.hard(0, 1, -1), -1);
        Due.is("hard(0, 2, 0)", x.hard(0, 2, 0), -1);
        x.lane(0, 1, 0);
        Due.is("hard without a lane", x.hard(0, 1, 0), -1);
    }

    private static void hoursOnEachSide() {
        NoonOnABarrow x = new NoonOnABarrow();
        x.house(0);
        x.house(0);
        x.house(0);
        x.lane(0, 1, 3);
        x.lane(1, 2, 9);
        x.pusher(9);
        x.push(1, 0);
        Due.is("on its way, from the one it left", x.of(1, 3), 15);
        x.minute(1);
        Due.is("ahead of noon", x.of(0, 3), 9);
        Due.is("noon", x.of(1, 3), 12);
        Due.is("behind noon", x.of(2, 3), 21);
        Due.is("earns at 9", x.of(0, 4), 9);
        Due.is("earns at 12", x.of(1, 4), 12);
        Due.is("earns at 21", x.of(2, 4), 3);
        x.push(2, 0);
        x.minute(3);
        Due.is("at 2", x.barrow(0), 2);
        Due.is("12 less 12", x.of(0, 3), 0);
        Due.is("earns at 0", x.of(0, 4), 0);
        x.lane(0, 1, 4);
        Due.is("held at 0", x.of(0, 3), 0);
    }

    public static void main(String[] args) {
        newObject();
        houses();
        lanes();
        pushers();
        hoursOnEachSide();
        Due.close();
    }
}
