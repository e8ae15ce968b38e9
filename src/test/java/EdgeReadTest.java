/** Each sentence on what is read and what comes, at its edges. */
public final class EdgeReadTest {
    private static NoonOnABarrow line(int houses, int length) {
        NoonOnABarrow x = new NoonOnABarrow();
        for (int i = 0; i < houses; i++) {
            x.house(9 - i);
            if (i > 0) {
                x.lane(i - 1, i, length);
            }
        }
        x.pusher(9);
        return x;
    }

    private static void ofAHouse() {
        Due.sentence("Of a HOUSE: 0 HILL, 1 PURSE, 2 PALE, 3 HOUR now, 4 earns now. -1000 for others.");
        NoonOnABarrow x = line(8, 1);
        x.minute(2);
        int[][] due = {{9, 24, 0, 12, 12}, {8, 22, 2, 13, 11}, {2, 10, 2, 19, 5}};
        int[] houses = {0, 1, 7};
        for (int i = 0; i < 3; i++) {
            for (int what = 0; what < 5; what++) {
                Due.is("of(" + houses[i] + ", " + what + ")", x.of(houses[i], what), due[i][what]);
            }
            Due.is("what -1", x.of(houses[i], -1), -1000);
            Due.is("what 5", x.of(houses[i], 5), -1000);
        }
        Due.is("house 8", x.of(8, 0), -1000);
        Due.is("house -1", x.of(-1, 0), -1000);
        NoonOnABarrow none = new NoonOnABarrow();
        for (int what = 0; what < 5; what++) {
            Due.is("without houses", none.of(0, what), -1000);
        }
        NoonOnABarrow poor = Due.ruled("earns -99;");
        poor.house(0);
        poor.minute(11);
        Due.is("the least purse is another answer", poor.of(0, 1), -999);
    }

    private static void ofTwoHouses() {
        Due.sentence("Of two HOUSES: 0 FAR, 1 the LANE (0: none), 2 warm of noon at the other one felt at the one. NONE for others (one and itself may be, its LANE is 0).");
        NoonOnABarrow x = line(8, 1);
        for (int h = 0; h < 8; h++) {
            Due.is("itself, far", x.two(h, h, 0), 0);
            Due.is("itself, lane", x.two(h, h, 1), 0);
            Due.is("itself, warm", x.two(h, h, 2), 30);
        }
        Due.is("far", x.two(0, 7, 0), 7);
        Due.is("far", x.two(7, 0, 0), 7);
        Due.is("lane", x.two(7, 6, 1), 1);
        Due.is("no lane", x.two(7, 5, 1), 0);
        Due.is("warm", x.two(2, 7, 2), 5);
        for (int what = 0; what < 3; what++) {
            Due.is("one 8", x.two(8, 0, what), -1);
            Due.is("other 8", x.two(0, 8, what), -1);
            Due.is("one -1", x.two(-1, 0, what), -1);
            Due.is("other -1", x.two(0, -1, what), -1);
            Due.is("both 8", x.two(8, 8, what), -1);
        }
        Due.is("what -1", x.two(0, 1, -1), -1);
        Due.is("what 3", x.two(0, 1, 3), -1);
        NoonOnABarrow law = Due.ruled("warm noon*10+here;");
        law.house(0);
        law.house(0);
        Due.is("at the other one, felt at the one", law.two(1, 0, 2), 1);
        Due.is("at the other one, felt at the one", law.two(0, 1, 2), 10);
    }

    private static void theBarrow() {
        Due.sentence("THE BARROW: 0 its HOUSE (which it left), 1 to which it goes (NONE), 2 LEFT, 3 its PUSHER (NONE), 4 WHEELS, 5 wears now (as LEFT is now; 0, if it lies). -2 for others.");
        NoonOnABarrow x = Due.ruled("hard 2;wears left+20;");
        x.house(0);
        x.house(0);
        x.lane(0, 1, 1);
        x.pusher(1);
        int[][] due = {{0, -1, 0, -1, 99, 0}, {0, 1, 2, 0, 99, 22}, {0, 1, 1, 0, 78, 21}, {1, -1, 0, -1, 58, 0}};
        for (int step = 0; step < 4; step++) {
            for (int what = 0; what < 6; what++) {
                Due.is("step " + step + " barrow(" + what + ")", x.barrow(what), due[step][what]);
            }
            Due.is("barrow(-1)", x.barrow(-1), -2);
            Due.is("barrow(6)", x.barrow(6), -2);
            if (step == 0) {
                x.push(1, 0);
            } else {
                x.minute(1);
            }
        }
    }

    private static void hardNow() {
        Due.sentence("hard now of pushing it from one HOUSE to another one by a PUSHER. NONE for others, and without a LANE.");
        NoonOnABarrow x = line(8, 2);
        for (int i = 0; i < 3; i++) {
            x.pusher(1 + i);
        }
        Due.is("downhill", x.hard(0, 1, 0), 5);
        Due.is("uphill, the last house, the last pusher", x.hard(7, 6, 3), 7);
        Due.is("where it is not", x.hard(6, 7, 3), 5);
        Due.is("without a lane", x.hard(0, 2, 0), -1);
        Due.is("itself", x.hard(7, 7, 0), -1);
        Due.is("one 8", x.hard(8, 7, 0), -1);
        Due.is("other 8", x.hard(7, 8, 0), -1);
        Due.is("one -1", x.hard(-1, 0, 0), -1);
        Due.is("other -1", x.hard(0, -1, 0), -1);
        Due.is("pusher 4", x.hard(0, 1, 4), -1);
        Due.is("pusher -1", x.hard(0, 1, -1), -1);
        x.push(1, 0);
        Due.is("on its way, too", x.hard(2, 3, 0), 5);
        NoonOnABarrow law = Due.ruled("hard minute+1;");
        law.house(0);
        law.house(0);
        law.lane(0, 1, 1);
        law.pusher(1);
        Due.is("now", law.hard(0, 1, 0), 1);
        law.minute(5);
        Due.is("now", law.hard(0, 1, 0), 6);
    }

    private static void theBook() {
        Due.sentence("BOOK: how many (i NONE); the i-th, from the eldest on: 0 MINUTE, 1 HOUSE, 2 pence. -2 if there is none such, and for others.");
        NoonOnABarrow x = Due.ruled("earns -5-here*3;");
        Due.is("empty", x.book(-1, 0), 0);
        Due.is("the first of none", x.book(0, 0), -2);
        for (int h = 0; h < 8; h++) {
            x.house(0);
            x.minute(1);
            Due.is("how many", x.book(-1, 0), h + 1);
            for (int i = 0; i <= h; i++) {
                Due.is("minute", x.book(i, 0), i);
                Due.is("house", x.book(i, 1), i);
                Due.is("pence", x.book(i, 2), 5 + 3 * i);
            }
            Due.is("one more", x.book(h + 1, 0), -2);
            Due.is("what -1", x.book(h, -1), -2);
            Due.is("what 3", x.book(h, 3), -2);
            Due.is("-2", x.book(-2, 0), -2);
        }
    }

    private static void foretoldOneToSixty() {
        Due.sentence("FORETOLD behind n MINUTES (1 .. 60; those that can pass do), nothing being done: PURSE, PALE, HOUR of a HOUSE.");
        NoonOnABarrow x = line(8, 1);
        Due.is("0 minutes", x.foretold(0, 0, 0), -1000);
        Due.is("61 minutes", x.foretold(61, 0, 0), -1000);
        Due.is("1 minute", x.foretold(1, 7, 0), 5);
        Due.is("60 minutes", x.foretold(60, 7, 0), 300);
        Due.is("pale", x.foretold(1, 7, 1), 1);
        Due.is("pale", x.foretold(60, 7, 1), 60);
        Due.is("hour", x.foretold(60, 7, 2), 19);
        Due.is("hour", x.foretold(60, 0, 2), 12);
        Due.is("house 8", x.foretold(1, 8, 0), -1000);
        Due.is("house -1", x.foretold(1, -1, 0), -1000);
        Due.is("what -1", x.foretold(1, 0, -1), -1000);
        Due.is("what 3", x.foretold(1, 0, 3), -1000);
        x.minute(60);
        Due.is("so it came", x.of(7, 1), 300);
        Due.is("99 at most", x.foretold(60, 7, 1), 99);
        Due.is("39 more", x.foretold(39, 7, 1), 99);
        Due.is("38 more", x.foretold(38, 7, 1), 98);
        NoonOnABarrow rich = Due.ruled("earns if here=0 then 99 else -99 end;");
        rich.house(0);
        rich.house(0);
        Due.is("-990", rich.foretold(10, 1, 0), -990);
        Due.is("-999 at least", rich.foretold(11, 1, 0), -999);
        rich.minute(60);
        Due.is("9999", rich.foretold(41, 0, 0), 9999);
        Due.is("9999 at most", rich.foretold(42, 0, 0), 9999);
        Due.is("as it was", rich.of(0, 1), 5940);
    }

    private static void foretoldOnItsWay() {
        Due.sentence("FORETOLD of a HOUSE: 0 PURSE, 1 PALE, 2 HOUR. -1000 for others.");
        NoonOnABarrow x = Due.ruled("hard 60;");
        x.house(0);
        x.house(0);
        x.lane(0, 1, 4);
        x.pusher(1);
        x.push(1, 0);
        Due.is("59: on its way yet", x.foretold(59, 0, 2), 12);
        Due.is("59: on its way yet", x.foretold(59, 1, 2), 16);
        Due.is("60: there", x.foretold(60, 0, 2), 8);
        Due.is("60: there", x.foretold(60, 1, 2), 12);
        Due.is("59: pale", x.foretold(59, 1, 1), 59);
        Due.is("60: noon", x.foretold(60, 1, 1), 0);
        Due.is("60: gone", x.foretold(60, 0, 1), 1);
        Due.is("60: earned by the hour", x.foretold(60, 0, 0), 59 * 12 + 8);
        Due.is("now as ever", x.of(1, 3), 16);
        Due.is("left as ever", x.barrow(2), 60);
    }

    private static void foretoldAtTheLast() {
        Due.sentence("those that can pass do");
        NoonOnABarrow x = State.EVENING.come();
        int then = x.foretold(29, 0, 0);
        Due.is("29 can", x.foretold(29, 1, 1), 99);
        Due.so("the 29th earns", then != x.foretold(28, 0, 0), true);
        Due.is("30 can't", x.foretold(30, 0, 0), then);
        Due.is("60 can't", x.foretold(60, 0, 0), then);
        x.minute(29);
        Due.is("so it came", x.of(0, 1), then);
        Due.is("none can", x.foretold(1, 0, 0), then);
        Due.is("none can", x.foretold(60, 0, 0), then);
        Due.is("the hour is as it is", x.foretold(60, 2, 2), x.of(2, 3));
        NoonOnABarrow late = State.LATE.come();
        Due.is("on its way for ever", late.foretold(60, 0, 2), 12);
    }

    private static NoonOnABarrow going(String laws, int strength) {
        NoonOnABarrow x = Due.ruled(laws);
        x.house(0);
        x.house(0);
        x.lane(0, 1, 1);
        x.pusher(strength);
        x.push(1, 0);
        return x;
    }

    private static void arrivesInSixtyAtMost() {
        Due.sentence("ARRIVES: in how many MINUTES (60 at most) THE BARROW on its way lies at the other HOUSE; none (it lies, too).");
        int[][] due = {{1, 1, 1}, {2, 1, 2}, {59, 1, 59}, {60, 1, 60}, {61, 1, -1}, {62, 1, -1}, {9, 9, 1}, {10, 9, 2}, {8, 9, 1},
            {540, 9, 60}, {541, 9, -1}, {18, 9, 2}, {19, 9, 3}};
        for (int[] d : due) {
            NoonOnABarrow x = going("hard " + d[0] + ";wears 0;", d[1]);
            Due.is("arrives of " + d[0] + " by " + d[1], x.arrives(), d[2]);
            if (d[2] > 0) {
                Due.is("the hour then", x.foretold(d[2], 1, 2), 12);
                if (d[2] > 1) {
                    Due.is("the hour ahead", x.foretold(d[2] - 1, 1, 2), 13);
                }
                x.minute(d[2]);
                Due.is("there", x.barrow(0), 1);
                Due.is("it lies", x.arrives(), -1);
            } else {
                x.minute(60);
                Due.is("not there", x.barrow(0), 0);
            }
        }
        Due.is("it lies", new NoonOnABarrow().arrives(), -1);
        NoonOnABarrow x = going("hard 20;wears 99;", 9);
        Due.is("on broken wheels: 16, 12, 8, there", x.arrives(), 4);
        x = going("hard 20;wears 99;", 5);
        Due.is("no way on", x.arrives(), -1);
        x = going("hard 62;wears if minute=0 then 99 else 0 end;", 5);
        x.mend();
        Due.is("broken from the first on: 0 more each", x.arrives(), -1);
        x = going("hard 40;wears 33;", 5);
        Due.is("the 3rd breaks them", x.arrives(), -1);
        x = going("hard 15;wears 33;", 5);
        Due.is("the 3rd is the last", x.arrives(), 3);
        x.tip();
        Due.is("tipped", x.arrives(), -1);
    }

    private static void arrivesAtTheLast() {
        Due.sentence("ARRIVES. NONE: none.");
        for (int passed = 26; passed <= 28; passed++) {
            NoonOnABarrow x = State.EVENING.come();
            x.lane(0, 1, 2);
            x.minute(passed);
            Due.is("3 left", x.push(1, 0), 3);
            Due.is("with " + (29 - passed) + " minutes yet", x.arrives(), passed == 26 ? 3 : -1);
        }
        Due.is("none can pass", State.LATE.come().arrives(), -1);
    }

    public static void main(String[] args) {
        ofAHouse();
        ofTwoHouses();
        theBarrow();
        hardNow();
        theBook();
        foretoldOneToSixty();
        foretoldOnItsWay();
        foretoldAtTheLast();
        arrivesInSixtyAtMost();
        arrivesAtTheLast();
        Due.close();
    }
}
