/** Promises 22 and 23: what comes. */
public final class ForetoldTest {
    private static NoonOnABarrow parish() {
        NoonOnABarrow x = new NoonOnABarrow();
        x.house(0);
        x.house(1);
        x.lane(0, 1, 5);
        x.pusher(4);
        return x;
    }

    private static void foretold() {
        NoonOnABarrow x = parish();
        Due.is("push", x.push(1, 0), 16);
        Due.is("purse of 1 behind 3", x.foretold(3, 1, 0), 21);
        Due.is("pale of 1 behind 3", x.foretold(3, 1, 1), 3);
        Due.is("pale of 1 behind 4", x.foretold(4, 1, 1), 0);
        Due.is("pale of 0 behind 4", x.foretold(4, 0, 1), 1);
        Due.is("hour of 0 behind 3", x.foretold(3, 0, 2), 12);
        Due.is("hour of 0 behind 4", x.foretold(4, 0, 2), 7);
        Due.is("purse of 1 behind 4", x.foretold(4, 1, 0), 33);
        Due.is("purse of 1 behind 60", x.foretold(60, 1, 0), 33 + 56 * 12);
        Due.is("foretold(0, 0, 0)", x.foretold(0, 0, 0), -1000);
        Due.is("foretold(61, 0, 0)", x.foretold(61, 0, 0), -1000);
        Due.is("foretold(1, 2, 0)", x.foretold(1, 2, 0), -1000);
        Due.is("foretold(1, -1, 0)", x.foretold(1, -1, 0), -1000);
        Due.is("foretold(1, 0, -1)", x.foretold(1, 0, -1), -1000);
        Due.is("foretold(1, 0, 3)", x.foretold(1, 0, 3), -1000);
        Due.is("nothing changes: minute", x.about(2), 0);
        Due.is("nothing changes: left", x.barrow(2), 16);
        Due.is("nothing changes: purse", x.of(1, 1), 0);
        Due.is("nothing changes: steps", x.about(6), 1);
        int foretold = x.foretold(7, 0, 0);
        x.minute(7);
        Due.is("so it came", x.of(0, 1), foretold);
    }

    private static void debtsForetoldAreNotWritten() {
        NoonOnABarrow x = Due.ruled("earns -minute;");
        x.house(0);
        Due.is("purse", x.foretold(4, 0, 0), -6);
        Due.is("no debt is written", x.book(-1, 0), 0);
        Due.is("a debt", x.minute(4), 1);
        Due.is("in minute 1", x.book(0, 0), 1);
    }

    private static void arrives() {
        NoonOnABarrow x = parish();
        Due.is("as it lies", x.arrives(), -1);
        x.push(1, 0);
        Due.is("arrives", x.arrives(), 4);
        x.minute(3);
        Due.is("arrives", x.arrives(), 1);
        Due.is("nothing changes", x.barrow(2), 4);
        Due.is("wheels", x.barrow(4), 96);
        x.minute(1);
        Due.is("there", x.arrives(), -1);
        NoonOnABarrow y = Due.ruled("hard 60+lane;wears if minute=59 then 0 else 0 end;");
        y.house(0);
        y.house(0);
        y.lane(0, 1, 1);
        y.pusher(1);
        y.push(1, 0);
        Due.is("61 minutes", y.arrives(), -1);
        y.minute(1);
        Due.is("60 minutes", y.arrives(), 60);
        NoonOnABarrow z = Due.ruled("hard 12;wears 33;");
        z.house(0);
        z.house(0);
        z.lane(0, 1, 1);
        z.pusher(3);
        z.push(1, 0);
        Due.is("wheels break on the way", z.arrives(), -1);
        z.minute(3);
        Due.is("wheels", z.barrow(4), 0);
        Due.is("3 and 5 left", z.barrow(2), 8);
        Due.is("never", z.arrives(), -1);
        NoonOnABarrow w = Due.ruled("hard 9;wears 33;");
        w.house(0);
        w.house(0);
        w.lane(0, 1, 1);
        w.pusher(3);
        w.push(1, 0);
        Due.is("wheels break as it is there", w.arrives(), 3);
    }

    public static void main(String[] args) {
        foretold();
        debtsForetoldAreNotWritten();
        arrives();
        Due.close();
    }
}
