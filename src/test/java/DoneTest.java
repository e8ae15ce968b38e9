/** Promises 5 to 9, 16, 19, 21: pushing, tipping, mending, minutes, years, taking back, the book. */
public final class DoneTest {
    private static NoonOnABarrow parish() {
        NoonOnABarrow x = new NoonOnABarrow();
        x.house(0);
        x.house(2);
        x.house(0);
        x.lane(0, 1, 2);
        x.lane(1, 2, 1);
        x.pusher(3);
        x.pusher(1);
        return x;
    }

    private static void pushing() {
        NoonOnABarrow x = parish();
        Due.is("push(2, 0) without a lane", x.push(2, 0), -1);
        Due.is("push(0, 0) to itself", x.push(0, 0), -1);
        Due.is("push(3, 0)", x.push(3, 0), -1);
        Due.is("push(-1, 0)", x.push(-1, 0), -1);
        Due.is("push(1, 2)", x.push(1, 2), -1);
        Due.is("push(1, -1)", x.push(1, -1), -1);
        Due.is("no step yet", x.about(6), 0);
        Due.is("push(1, 1)", x.push(1, 1), 8);
        Due.is("a step", x.about(6), 1);
        int[] barrow = {0, 1, 8, 1, 99, 1};
        for (int what = 0; what < 6; what++) {
            Due.is("barrow(" + what + ") on its way", x.barrow(what), barrow[what]);
        }
        Due.is("barrow(-1)", x.barrow(-1), -2);
        Due.is("barrow(6)", x.barrow(6), -2);
        Due.is("push on its way", x.push(1, 0), -1);
        x.lane(0, 1, 0);
        Due.is("minute(8)", x.minute(8), 0);
        Due.is("it goes on without the lane", x.barrow(0), 1);
        Due.is("lies", x.barrow(1), -1);
        Due.is("by none", x.barrow(3), -1);
        Due.is("worn", x.barrow(4), 91);
        Due.is("back over no lane", x.push(0, 0), -1);
        Due.is("push(2, 0)", x.push(2, 0), 1);
        x.minute(1);
        Due.is("more strength than left", x.barrow(0), 2);
        Due.is("left", x.barrow(2), 0);
        NoonOnABarrow none = new NoonOnABarrow();
        Due.is("push without houses", none.push(0, 0), -1);
        none.pusher(1);
        Due.is("push without houses by one", none.push(0, 0), -1);
    }

    private static void tippingAndMending() {
        NoonOnABarrow x = parish();
        Due.so("tip as it lies", x.tip(), false);
        Due.so("mend as new", x.mend(), false);
        Due.is("no step", x.about(6), 0);
        x.push(1, 1);
        Due.so("tip", x.tip(), true);
        Due.is("wheels", x.barrow(4), 94);
        Due.is("house", x.barrow(0), 0);
        Due.is("to", x.barrow(1), -1);
        Due.is("left", x.barrow(2), 0);
        Due.is("pusher", x.barrow(3), -1);
        for (int i = 0; i < 18; i++) {
            x.push(1, 1);
            x.tip();
        }
        Due.is("wheels 4", x.barrow(4), 4);
        x.push(1, 1);
        Due.so("tip to 0", x.tip(), true);
        Due.is("wheels 0 at least", x.barrow(4), 0);
        x.push(1, 1);
        x.minute(1);
        Due.is("broken: 7 and 5", x.barrow(2), 12);
        Due.is("never there", x.arrives(), -1);
        Due.so("mend on its way", x.mend(), true);
        Due.is("wheels 99", x.barrow(4), 99);
        Due.is("left as it was", x.barrow(2), 12);
        Due.is("to as it was", x.barrow(1), 1);
        Due.so("mend again", x.mend(), false);
    }

    private static void brokenWheelsAreLate() {
        NoonOnABarrow x = Due.ruled("hard 999;wears 99;");
        x.house(0);
        x.house(0);
        x.lane(0, 1, 1);
        x.pusher(1);
        Due.is("push", x.push(1, 0), 999);
        for (int i = 0; i < 37; i++) {
            x.minute(60);
        }
        x.minute(28);
        Due.is("left grows by 4 a minute", x.barrow(2), 9991);
        x.minute(1);
        Due.is("left", x.barrow(2), 9995);
        x.minute(1);
        Due.is("left", x.barrow(2), 9999);
        x.minute(2);
        Due.is("9999 at most", x.barrow(2), 9999);
    }

    private static void minutes() {
        NoonOnABarrow x = Due.ruled("earns 5-pale*4;");
        Due.is("minute(0)", x.minute(0), -1);
        Due.is("minute(61)", x.minute(61), -1);
        Due.is("minute(-1)", x.minute(-1), -1);
        x.house(0);
        x.house(0);
        Due.is("minute(1)", x.minute(1), 0);
        Due.is("purse of 0", x.of(0, 1), 5);
        Due.is("pale of 0", x.of(0, 2), 0);
        Due.is("purse of 1", x.of(1, 1), 5);
        Due.is("pale of 1", x.of(1, 2), 1);
        Due.is("earns by the pale it has", x.of(1, 4), 1);
        Due.is("minute(2)", x.minute(2), 0);
        Due.is("5 and 5, 1, -3", x.of(1, 1), 3);
        Due.is("minute(1) with a debt", x.minute(1), 1);
        Due.is("purse", x.of(1, 1), -4);
        Due.is("no second debt", x.minute(60), 0);
        Due.is("held at -999", x.of(1, 1), -999);
        Due.is("of noon", x.of(0, 1), 320);
        Due.is("about(2)", x.about(2), 64);
        Due.is("one debt", x.book(-1, 9), 1);
        Due.is("its minute", x.book(0, 0), 3);
        Due.is("its house", x.book(0, 1), 1);
        Due.is("its pence", x.book(0, 2), 4);
        Due.is("book(0, 3)", x.book(0, 3), -2);
        Due.is("book(0, -1)", x.book(0, -1), -2);
        Due.is("book(1, 0)", x.book(1, 0), -2);
        Due.is("book(-2, 0)", x.book(-2, 0), -2);
        x.minute(60);
        Due.is("pale is 99 at most", x.of(1, 2), 99);
    }

    private static void boundsOfPurses() {
        NoonOnABarrow x = Due.ruled("earns if here=0 then 5000 else -5000 end;");
        x.house(0);
        x.house(0);
        Due.is("99 at most", x.of(0, 4), 99);
        Due.is("-99 at least", x.of(1, 4), -99);
        Due.is("minute(60)", x.minute(60), 1);
        Due.is("-999", x.of(1, 1), -999);
        x.minute(41);
        Due.is("9999", x.of(0, 1), 9999);
        x.minute(1);
        Due.is("9999 at most", x.of(0, 1), 9999);
        Due.is("99 below 0", x.book(0, 2), 99);
    }

    private static void theLastMinute() {
        NoonOnABarrow x = Due.ruled("earns if minute>9990 then 1 else 0 end;");
        x.house(0);
        x.house(0);
        x.pusher(1);
        x.lane(0, 1, 9);
        for (int i = 0; i < 166; i++) {
            x.minute(60);
        }
        Due.is("minute", x.about(2), 9960);
        Due.is("not all can", x.minute(40), -1);
        Due.is("nothing is done", x.about(2), 9960);
        Due.is("minute(38)", x.minute(38), 0);
        x.lane(0, 1, 1);
        x.pusher(2);
        x.pusher(3);
        Due.is("push", x.push(1, 2), 3);
        Due.is("arrives in the last", x.arrives(), 1);
        x.undo();
        Due.is("push", x.push(1, 1), 3);
        Due.is("arrives in two, if two could pass", x.arrives(), -1);
        Due.is("foretold pale", x.foretold(60, 1, 1), 99);
        Due.is("foretold purse of those that can pass", x.foretold(60, 1, 0), 8);
        Due.is("the last", x.minute(1), 0);
        Due.is("about(2)", x.about(2), 9999);
        Due.is("none can pass", x.minute(1), -1);
        Due.is("purse", x.of(1, 1), 8);
        Due.is("foretold as it is", x.foretold(1, 1, 0), 8);
        Due.is("years can go", x.years(7, 30), 9999);
        Due.is("text", Due.text(x, "minute 1;"), 1);
        Due.is("played", x.played(1), 0);
        while (x.about(2) > 9995) {
            x.undo();
        }
        Due.is("text", Due.text(x, "tip;minute 9;mend;"), 2);
        x.push(1, 0);
        Due.is("played: those that can pass do", x.played(2), 1);
        Due.is("about(2)", x.about(2), 9999);
    }

    private static void theBookHolds30() {
        NoonOnABarrow x = Due.ruled("earns if purse<0 then 9 else -7-here-minute/10 end;");
        for (int i = 0; i < 8; i++) {
            x.house(0);
        }
        Due.is("a debt of each", x.minute(1), 8);
        Due.is("7 debts", x.minute(1), 0);
        Due.is("book", x.book(-1, 0), 8);
        Due.is("the eldest", x.book(0, 2), 7);
        Due.is("the 8th", x.book(7, 1), 7);
        int debts = 8;
        for (int i = 0; i < 20; i++) {
            debts += x.minute(1);
        }
        Due.so("more than 30 were made", debts > 30, true);
        Due.is("30 are kept", x.book(-1, 0), 30);
        Due.is("book(30, 0)", x.book(30, 0), -2);
        Due.is("the latest is of the latest minutes", x.book(29, 0), 21);
        boolean inOrder = true;
        for (int i = 1; i < 30; i++) {
            int now = x.book(i, 0) * 8 + x.book(i, 1);
            int ahead = x.book(i - 1, 0) * 8 + x.book(i - 1, 1);
            inOrder &= now > ahead;
        }
        Due.so("from the eldest on, by minute and house", inOrder, true);
        int eldest = x.book(0, 0);
        for (int i = 0; i < 20; i++) {
            x.undo();
        }
        Due.is("as ahead of them", x.book(-1, 0), 8);
        Due.is("the eldest again", x.book(0, 0), 0);
        Due.so("it was gone", eldest > 0, true);
    }

    private static void theBookDebtByDebt() {
        NoonOnABarrow x = Due.ruled("earns if purse<0 then 99 else -99 end;");
        x.house(0);
        for (int debts = 1; debts <= 36; debts++) {
            Due.is("minute(2)", x.minute(2), 1);
            Due.is("debts", x.book(-1, 0), Math.min(30, debts));
            Due.is("the eldest", x.book(0, 0), 2 * Math.max(0, debts - 30));
            Due.is("the latest", x.book(Math.min(30, debts) - 1, 0), 2 * debts - 2);
        }
        for (int i = 0; i < 12; i++) {
            x.undo();
        }
        for (int i = 0; i < 30; i++) {
            Due.is("all of the book as it was", x.book(i, 0), 2 * i);
            Due.is("99 pence", x.book(i, 2), 99);
        }
    }

    private static void wearsIsAskedWithWhatIsLeftThen() {
        NoonOnABarrow x = Due.ruled("wears left*10+wheels/99+minute*20;hard 5;");
        x.house(0);
        x.house(0);
        x.lane(0, 1, 1);
        x.pusher(3);
        x.push(1, 0);
        Due.is("wears now, as left is now", x.barrow(5), 51);
        x.minute(1);
        Due.is("wheels", x.barrow(4), 99 - 21);
        Due.is("wears now", x.barrow(5), 40);
        x.minute(1);
        Due.is("wheels as left was 0", x.barrow(4), 78 - 20);
        Due.is("wears as it lies", x.barrow(5), 0);
        Due.is("house", x.barrow(0), 1);
    }

    private static void years() {
        NoonOnABarrow x = new NoonOnABarrow();
        Due.is("years without houses", x.years(0, 1), -1);
        x.house(0);
        Due.is("years(-1, 1)", x.years(-1, 1), -1);
        Due.is("years(10000, 1)", x.years(10000, 1), -1);
        Due.is("years(0, 0)", x.years(0, 0), -1);
        Due.is("years(0, 31)", x.years(0, 31), -1);
        Due.is("no draw", x.about(3), 89);
        Due.is("years(0, 1): 5 is drawn of 89", x.years(0, 1), 1);
        Due.is("x is changed behind the draw", x.about(3), 25380);
        Due.is("one step", x.about(6), 1);
        x.undo();
        Due.is("x as ahead", x.about(3), 89);
        Due.is("no minute", x.about(2), 0);
        Due.is("years(1, 1): 1 is drawn, without pushers nothing", x.years(1, 1), 0);
        Due.is("one draw alone", x.about(3), 25946);
        x.undo();
        x.house(0);
        x.lane(0, 1, 4);
        x.pusher(5);
        Due.is("years(1, 1): 1 is drawn, 0 by 0, it can't be", x.years(1, 1), 0);
        Due.is("a house and a pusher are drawn", x.about(3), 27230);
        Due.is("lies", x.barrow(1), -1);
        x.undo();
        Due.is("years(10, 1): 1 is drawn, 1 by 0", x.years(10, 1), 0);
        Due.is("three draws", x.about(3), 17929);
        Due.is("pushed to 1", x.barrow(1), 1);
        Due.is("left", x.barrow(2), 12);
        Due.is("one step", x.about(6), 1);
        int minutes = x.years(9999, 30);
        Due.is("one step more", x.about(6), 2);
        Due.is("minutes", x.about(2), minutes);
        x.undo();
        Due.is("none of them", x.about(2), 0);
        Due.is("x", x.about(3), 17929);
    }

    private static void whatADrawDoes() {
        NoonOnABarrow x = parish();
        x.lane(0, 2, 3);
        Due.is("years(0, 1): 5 is drawn", x.years(0, 1), 1);
        Due.is("x", x.about(3), 25380);
        Due.is("purse", x.of(0, 1), 12);
        Due.is("years(2, 2): 3, 4 are drawn", x.years(2, 2), 2);
        Due.is("x", x.about(3), 15778);
        Due.is("years(50, 3): 3, 3, 2 are drawn, it lies", x.years(50, 3), 2);
        Due.is("wheels", x.barrow(4), 99);
        Due.is("x", x.about(3), 168);
        Due.is("years(4, 1): 1 is drawn, 2 by 1", x.years(4, 1), 2);
        Due.is("to", x.barrow(1), 2);
        Due.is("by", x.barrow(3), 1);
        Due.is("x", x.about(3), 3921);
        Due.is("years(10, 1): 1 is drawn, 1 by 0, it can't be", x.years(10, 1), 2);
        Due.is("to", x.barrow(1), 2);
        Due.is("by", x.barrow(3), 1);
        Due.is("x", x.about(3), 17929);
        Due.is("years(50, 3): 3, 3, 2 are drawn", x.years(50, 3), 2);
        Due.is("lies", x.barrow(1), -1);
        Due.is("wheels", x.barrow(4), 94);
        Due.is("years(2, 1): 3 is drawn", x.years(2, 1), 2);
        Due.is("wheels", x.barrow(4), 99);
        Due.is("x", x.about(3), 26512);
        Due.is("years(2, 1) with the best wheels", x.years(2, 1), 2);
        Due.is("each is a step", x.about(6), 8);
        Due.is("years(9, 4): 5, 5, 5, 0 are drawn, 1 by 0", x.years(9, 4), 5);
        Due.is("to", x.barrow(1), 1);
        Due.is("by", x.barrow(3), 0);
        Due.is("x", x.about(3), 4350);
        Due.is("steps", x.about(6), 9);
        NoonOnABarrow y = Due.ruled("earns -1;");
        y.house(0);
        y.years(0, 1);
        Due.is("debts are written", y.book(-1, 0), 1);
        y.undo();
        Due.is("and taken back", y.book(-1, 0), 0);
    }

    private static void takingBack() {
        NoonOnABarrow x = parish();
        Due.is("undo of none", x.undo(), -1);
        x.minute(1);
        x.push(1, 1);
        x.tip();
        x.mend();
        x.years(5, 9);
        x.minute(3);
        x.house(4);
        x.minute(1);
        Due.is("steps", x.about(6), 9);
        Due.so("the new one has a purse", x.of(3, 1) > 0, true);
        Due.is("undo", x.undo(), 8);
        Due.is("the new one's purse", x.of(3, 1), 0);
        x.minute(1);
        Due.is("undo", x.undo(), 8);
        for (int i = 7; i >= 4; i--) {
            Due.is("undo", x.undo(), i);
        }
        Due.is("mended", x.barrow(4), 99);
        Due.is("x", x.about(3), 89);
        Due.is("a house told since stays", x.about(0), 4);
        Due.is("with purse 0", x.of(3, 1), 0);
        Due.is("with pale 0", x.of(3, 2), 0);
        Due.is("undo mend", x.undo(), 3);
        Due.is("worn", x.barrow(4), 94);
        Due.is("undo tip", x.undo(), 2);
        Due.is("left", x.barrow(2), 8);
        Due.is("wheels", x.barrow(4), 99);
        Due.is("undo push", x.undo(), 1);
        Due.is("lies", x.barrow(1), -1);
        Due.is("purse", x.of(0, 1), 12);
        Due.is("undo minute", x.undo(), 0);
        Due.is("purse", x.of(0, 1), 0);
        Due.is("pale", x.of(1, 2), 0);
        Due.is("minute", x.about(2), 0);
        Due.is("undo of none", x.undo(), -1);
    }

    private static void thirtyStepsAreKept() {
        NoonOnABarrow x = parish();
        x.minute(29);
        Due.is("29", x.about(6), 29);
        x.minute(1);
        Due.is("30", x.about(6), 30);
        x.minute(17);
        Due.is("30 at most", x.about(6), 30);
        for (int i = 29; i >= 0; i--) {
            Due.is("undo", x.undo(), i);
            Due.is("minute", x.about(2), 17 + i);
        }
        Due.is("undo of none", x.undo(), -1);
        x.minute(2);
        Due.is("2 again", x.about(6), 2);
        Due.is("undo", x.undo(), 1);
        Due.is("minute", x.about(2), 18);
    }

    public static void main(String[] args) {
        pushing();
        tippingAndMending();
        brokenWheelsAreLate();
        minutes();
        boundsOfPurses();
        theLastMinute();
        theBookHolds30();
        theBookDebtByDebt();
        wearsIsAskedWithWhatIsLeftThen();
        years();
        whatADrawDoes();
        takingBack();
        thirtyStepsAreKept();
        Due.close();
    }
}
