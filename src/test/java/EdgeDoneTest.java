/** Each sentence on what is done and taken back, at its edges. */
public final class EdgeDoneTest {
    /** Two HOUSES, a LANE of 1, a PUSHER of the strength told; the laws rule. */
    private static NoonOnABarrow pair(String laws, int strength) {
        NoonOnABarrow x = Due.ruled(laws);
        x.house(0);
        x.house(0);
        x.lane(0, 1, 1);
        x.pusher(strength);
        return x;
    }

    private static void barrowIs(String when, NoonOnABarrow x, int... due) {
        for (int what = 0; what < due.length; what++) {
            Due.is("barrow(" + what + ") " + when, x.barrow(what), due[what]);
        }
    }

    private static void pushedOneAtLeast() {
        Due.sentence("LEFT is what hard says of it (1 at least).");
        int[][] due = {{-1, 1}, {0, 1}, {1, 1}, {2, 2}, {998, 998}, {999, 999}, {1000, 999}, {9999, 999}};
        for (int[] d : due) {
            NoonOnABarrow x = pair("hard " + d[0] + ";", 1);
            Due.is("push where hard says " + d[0], x.push(1, 0), d[1]);
            barrowIs("where hard says " + d[0], x, 0, 1, d[1], 0, 99);
            Due.is("one step", x.about(6), 1);
        }
        Due.sentence("PUSHED to a HOUSE: LEFT. NONE, if it can't be, and for others.");
        NoonOnABarrow x = State.FULL.come();
        Due.is("to the last house by the last pusher", x.push(7, 3), 8);
        barrowIs("to the last house", x, 0, 7, 8, 3);
        Due.is("on its way", x.push(7, 3), -1);
        x = pair("", 1);
        Due.is("to the second of two", x.push(1, 0), 3);
        x.minute(3);
        Due.is("to the first of two", x.push(0, 0), 3);
        x.minute(3);
        Due.is("there", x.barrow(0), 0);
        x.lane(0, 1, 0);
        Due.is("no lane any more", x.push(1, 0), -1);
    }

    private static void tippedZeroAtLeast() {
        Due.sentence("TIPPED: THE BARROW on its way is at the HOUSE it left, LEFT 0, WHEELS 5 less (0 at least).");
        int[][] due = {{99, 94}, {6, 1}, {5, 0}, {4, 0}, {1, 0}, {0, 0}};
        for (int[] d : due) {
            NoonOnABarrow x = pair("hard 999;wears " + (99 - d[0]) + ";", 1);
            x.push(1, 0);
            x.minute(1);
            Due.is("wheels", x.barrow(4), d[0]);
            Due.so("tip", x.tip(), true);
            barrowIs("tipped", x, 0, -1, 0, -1, d[1], 0);
            Due.is("a step", x.about(6), 3);
            Due.so("tip as it lies", x.tip(), false);
            Due.is("no step", x.about(6), 3);
            Due.is("wheels as they were", x.barrow(4), d[1]);
        }
        Due.sentence("TIPPED: true. False, if it lies.");
        NoonOnABarrow x = pair("hard 1;", 1);
        x.push(1, 0);
        Due.is("the least that can be left", x.barrow(2), 1);
        Due.so("tip", x.tip(), true);
        barrowIs("tipped", x, 0, -1, 0, -1, 94);
        x.push(1, 0);
        x.minute(1);
        Due.so("tip at the other house", x.tip(), false);
        barrowIs("there", x, 1, -1, 0, -1, 93);
    }

    private static void mended() {
        Due.sentence("MENDED: WHEELS are 99.");
        Due.sentence("MENDED: true. False, if WHEELS are 99.");
        for (int wheels : new int[] {0, 1, 97, 98}) {
            NoonOnABarrow x = pair("hard 9;wears " + (99 - wheels) + ";", 9);
            Due.so("mend of 99", x.mend(), false);
            Due.is("no step", x.about(6), 0);
            x.push(1, 0);
            x.minute(1);
            Due.is("wheels", x.barrow(4), wheels);
            Due.so("mend of " + wheels, x.mend(), true);
            Due.is("wheels", x.barrow(4), 99);
            Due.is("a step", x.about(6), 3);
            Due.so("mend again", x.mend(), false);
            Due.is("no step", x.about(6), 3);
        }
    }

    private static void leftIsLess() {
        Due.sentence("if LEFT is above 0: it is less by STRENGTH of its PUSHER (0 at least)");
        for (int strength : new int[] {1, 5, 9}) {
            for (int more = -1; more <= 1; more++) {
                int left = strength + more;
                if (left < 1) {
                    continue;
                }
                NoonOnABarrow x = pair("hard " + left + ";", strength);
                x.push(1, 0);
                x.minute(1);
                if (more > 0) {
                    barrowIs("with 1 left", x, 0, 1, 1, 0, 98);
                    Due.is("a minute more", x.minute(1), 0);
                    barrowIs("then", x, 1, -1, 0, -1, 97);
                } else {
                    barrowIs("with " + left + " by " + strength, x, 1, -1, 0, -1, 98);
                }
            }
        }
        NoonOnABarrow x = pair("wears 99;", 1);
        x.minute(5);
        barrowIs("as it lies nothing wears", x, 0, -1, 0, -1, 99);
    }

    private static void wheelsAreLess() {
        Due.sentence("WHEELS are less by wears (asked with that LEFT; 0 at least)");
        NoonOnABarrow x = pair("hard 30;wears left;", 1);
        x.push(1, 0);
        Due.is("as left is now", x.barrow(5), 30);
        x.minute(1);
        Due.is("as left was then", x.barrow(4), 99 - 29);
        x.minute(2);
        Due.is("and so on", x.barrow(4), 99 - 29 - 28 - 27);
        x.minute(1);
        Due.is("0 at least", x.barrow(4), 0);
        Due.sentence("else, if WHEELS are 0: LEFT is 5 more (9999 at most)");
        Due.is("26 and 5", x.barrow(2), 31);
        for (int wears : new int[] {97, 98, 99}) {
            x = pair("hard 10;wears " + wears + ";", 3);
            x.push(1, 0);
            x.minute(1);
            Due.is("wheels", x.barrow(4), 99 - wears);
            Due.is("left", x.barrow(2), wears == 99 ? 12 : 7);
        }
        Due.sentence("if LEFT is 0 then, it is at the other HOUSE");
        x = pair("hard 3;wears 99;", 3);
        x.push(1, 0);
        x.minute(1);
        barrowIs("with wheels 0 it is there yet", x, 1, -1, 0, -1, 0);
    }

    private static void leftIs9999AtMost() {
        Due.sentence("LEFT is 5 more (9999 at most)");
        NoonOnABarrow x = pair("hard 999;wears 99;", 1);
        x.pusher(4);
        x.push(1, 0);
        for (int i = 0; i < 37; i++) {
            x.minute(60);
        }
        x.minute(30);
        Due.is("9999", x.barrow(2), 999 + 4 * 2250);
        x.minute(1);
        Due.is("9999 at most", x.barrow(2), 9999);
        NoonOnABarrow y = pair("hard 999;wears 99;", 1);
        y.pusher(4);
        y.push(1, 1);
        for (int i = 0; i < 150; i++) {
            y.minute(60);
        }
        Due.is("9999, 1 more each", y.barrow(2), 9999);
        y.minute(1);
        Due.is("9995 and 5", y.barrow(2), 9999);
    }

    private static void purseIsHeld() {
        Due.sentence("PURSE is more by earns (held within its bounds)");
        NoonOnABarrow x = Due.ruled("earns if here=0 then 99 else if here=1 then -99 else if here=2 then 98 else -9 end end end;");
        for (int i = 0; i < 4; i++) {
            x.house(0);
        }
        x.minute(10);
        Due.is("-990", x.of(1, 1), -990);
        x.minute(1);
        Due.is("-999 at least", x.of(1, 1), -999);
        x.minute(60);
        x.minute(29);
        Due.is("9900", x.of(0, 1), 9900);
        Due.is("-900", x.of(3, 1), -900);
        x.minute(1);
        Due.is("9999", x.of(0, 1), 9999);
        x.minute(1);
        Due.is("9999 at most", x.of(0, 1), 9999);
        Due.is("102 of 98", x.of(2, 1), 9996);
        x.minute(1);
        Due.is("9999 at most", x.of(2, 1), 9999);
        x.minute(7);
        Due.is("-990", x.of(3, 1), -990);
        x.minute(1);
        Due.is("-999", x.of(3, 1), -999);
        x.minute(1);
        Due.is("-999 at least", x.of(3, 1), -999);
        Due.is("two debts in all", x.book(-1, 0), 2);
    }

    private static void debts() {
        Due.sentence("if it is below 0 then and was not ahead: a debt, it is written down (how far below 0)");
        NoonOnABarrow x = Due.ruled("earns if minute=0 or minute=5 then 0 else if minute=3 then 2 else if minute=6 then 99 else if minute=7 then -99 else -1 end end end end;");
        x.house(0);
        Due.is("0 stays 0", x.minute(1), 0);
        Due.is("0 to -1 is a debt", x.minute(1), 1);
        Due.is("of 1", x.book(0, 2), 1);
        Due.is("-1 to -2 is none", x.minute(1), 0);
        Due.is("-2 to 0 is none", x.minute(1), 0);
        Due.is("0 to -1 again", x.minute(1), 1);
        Due.is("-1 to -1", x.minute(1), 0);
        Due.is("-1 to 98", x.minute(1), 0);
        Due.is("98 to -1", x.minute(1), 1);
        Due.is("three", x.book(-1, 0), 3);
        Due.sentence("BOOK (the latest 30 debts): MINUTE, HOUSE, pence.");
        int[][] due = {{1, 0, 1}, {4, 0, 1}, {7, 0, 1}};
        for (int i = 0; i < 3; i++) {
            for (int what = 0; what < 3; what++) {
                Due.is("book(" + i + ", " + what + ")", x.book(i, what), due[i][what]);
            }
        }
        Due.is("book(3, 0)", x.book(3, 0), -2);
        NoonOnABarrow y = Due.ruled("earns -99;");
        for (int i = 0; i < 8; i++) {
            y.house(0);
        }
        Due.is("each has one", y.minute(60), 8);
        for (int i = 0; i < 8; i++) {
            Due.is("by number", y.book(i, 1), i);
            Due.is("99 pence", y.book(i, 2), 99);
            Due.is("minute 0", y.book(i, 0), 0);
        }
    }

    private static void theLatestThirtyDebts() {
        Due.sentence("BOOK (the latest 30 debts)");
        NoonOnABarrow x = Due.ruled("earns if purse<0 then -purse else -9+here end;");
        x.house(0);
        Due.is("29 debts", x.minute(58), 29);
        Due.is("29", x.book(-1, 0), 29);
        Due.is("book(29, 0)", x.book(29, 0), -2);
        x.minute(1);
        Due.is("30", x.book(-1, 0), 30);
        Due.is("the eldest", x.book(0, 0), 0);
        Due.is("the 30th", x.book(29, 0), 58);
        x.minute(2);
        Due.is("30 yet", x.book(-1, 0), 30);
        Due.is("the first is gone", x.book(0, 0), 2);
        Due.is("the 31st", x.book(29, 0), 60);
        Due.is("book(30, 0)", x.book(30, 0), -2);
        Due.sentence("MINUTES pass (1 .. 60): how many debts there are in these.");
        x.minute(1);
        for (int i = 0; i < 7; i++) {
            x.house(0);
        }
        Due.is("all are counted, more than the book holds", x.minute(60), 30 * 8);
        Due.is("30 yet", x.book(-1, 0), 30);
        Due.is("the latest", x.book(29, 1), 7);
        Due.is("2 pence", x.book(29, 2), 2);
        Due.is("eight in one", x.minute(1), 8);
        Due.is("none in one", x.minute(1), 0);
    }

    private static void pale() {
        Due.sentence("PALE is 0, if its HOUR is 12, else one more (99 at most).");
        NoonOnABarrow x = pair("hard 1;", 1);
        x.minute(60);
        x.minute(38);
        Due.is("98", x.of(1, 2), 98);
        x.minute(1);
        Due.is("99", x.of(1, 2), 99);
        x.minute(1);
        Due.is("99 at most", x.of(1, 2), 99);
        Due.is("noon's", x.of(0, 2), 0);
        x.push(1, 0);
        Due.is("not yet", x.of(1, 2), 99);
        x.minute(1);
        Due.is("noon has come", x.of(1, 2), 0);
        Due.is("and gone", x.of(0, 2), 1);
    }

    private static void allAsThen() {
        Due.sentence("Then each HOUSE, by number, all as then");
        NoonOnABarrow x = pair("hard 1;earns hour*2+pale+minute;", 1);
        x.minute(3);
        Due.is("0: 24 and minutes", x.of(0, 1), 24 * 3 + 0 + 1 + 2);
        Due.is("1: 26, pale ahead, minutes", x.of(1, 1), 26 * 3 + (0 + 1 + 2) + (0 + 1 + 2));
        x.push(1, 0);
        x.minute(1);
        Due.is("0: by the hour behind the pushing", x.of(0, 1), 75 + 22 + 0 + 3);
        Due.is("1: noon, but pale as it was", x.of(1, 1), 84 + 24 + 3 + 3);
    }

    private static void minutesOneToSixty() {
        Due.sentence("NONE for others, or if not all can (nothing is done then).");
        NoonOnABarrow x = new NoonOnABarrow();
        Due.is("minute(0)", x.minute(0), -1);
        Due.is("minute(61)", x.minute(61), -1);
        Due.is("none has passed", x.about(2), 0);
        Due.is("minute(1) without houses", x.minute(1), 0);
        Due.is("1", x.about(2), 1);
        Due.is("minute(60)", x.minute(60), 0);
        Due.is("61", x.about(2), 61);
        Due.sentence("MINUTE is one more (at 9999 none can pass).");
        Due.text(x, "minute 60;".repeat(24));
        for (int i = 0; i < 6; i++) {
            x.played(0);
        }
        for (int minute = 61 + 8640; minute < 9939; minute += 60) {
            x.minute(Math.min(60, 9939 - minute));
        }
        Due.is("9939", x.about(2), 9939);
        x.image();
        Due.is("all 60 can", x.minute(60), 0);
        Due.is("9999", x.about(2), 9999);
        Due.is("none can", x.minute(1), -1);
        x.back();
        x.minute(1);
        Due.is("not all 60 can", x.minute(60), -1);
        Due.is("9940", x.about(2), 9940);
        Due.is("no step of these", x.about(6), 30);
        Due.is("59 can", x.minute(59), 0);
        Due.is("9999", x.about(2), 9999);
        Due.is("none can", x.minute(1), -1);
        x.undo();
        Due.is("9998", x.about(2), 9998);
        Due.is("not both can", x.minute(2), -1);
        Due.is("9998 yet", x.about(2), 9998);
        Due.is("one can", x.minute(1), 0);
        Due.is("9999", x.about(2), 9999);
    }

    private static void theLatestThirtySteps() {
        Due.sentence("the latest 30 can be taken back, the latest first");
        NoonOnABarrow x = pair("hard 5;", 1);
        for (int i = 0; i < 14; i++) {
            x.push(1, 0);
            x.tip();
        }
        Due.is("28", x.about(6), 28);
        x.mend();
        Due.is("29", x.about(6), 29);
        x.years(2, 1);
        Due.is("30", x.about(6), 30);
        x.minute(1);
        Due.is("30 yet", x.about(6), 30);
        x.minute(3);
        Due.is("30 yet", x.about(6), 30);
        for (int i = 29; i >= 26; i--) {
            Due.is("a minute is taken back", x.undo(), i);
            Due.is("minute", x.about(2), i - 26);
        }
        Due.is("x of the years", x.about(3), 26512);
        Due.is("the years are taken back", x.undo(), 25);
        Due.is("x", x.about(3), 89);
        Due.is("the mending is taken back", x.undo(), 24);
        Due.is("wheels", x.barrow(4), 99 - 14 * 5);
        for (int i = 23; i >= 1; i -= 2) {
            Due.is("the tipping is taken back", x.undo(), i);
            Due.is("on its way", x.barrow(2), 5);
            Due.is("the pushing is taken back", x.undo(), i - 1);
            Due.is("lies", x.barrow(2), 0);
        }
        Due.sentence("The latest STEP is taken back: how many can be yet. NONE: there is none.");
        Due.is("none is left", x.undo(), -1);
        Due.is("of 34 four can't be", x.barrow(4), 89);
        Due.is("none", x.about(6), 0);
        x.push(1, 0);
        Due.is("one again", x.undo(), 0);
        Due.is("none again", x.undo(), -1);
    }

    private static void theLatestThirtyOfMany() {
        Due.sentence("the latest 30 can be taken back, the latest first");
        for (int passed : new int[] {30, 31, 59, 60, 61, 62, 89, 90, 91, 92, 119, 121, 150, 183}) {
            NoonOnABarrow x = new NoonOnABarrow();
            x.house(0);
            for (int rest = passed; rest > 0; rest -= 60) {
                x.minute(Math.min(60, rest));
            }
            for (int i = 29; i >= 0; i--) {
                Due.is("undo of " + passed, x.undo(), i);
                Due.is("minute of " + passed, x.about(2), passed - 30 + i);
                Due.is("purse of " + passed, x.of(0, 1), 12 * (passed - 30 + i));
            }
            Due.is("no more of " + passed, x.undo(), -1);
            x.minute(40);
            Due.is("30 anew", x.about(6), 30);
            x.undo();
            Due.is("the latest of these", x.about(2), passed - 30 + 39);
        }
    }

    private static void asAheadOfIt() {
        Due.sentence("(THE BARROW, WHEELS, PURSES, PALE, MINUTE, X, BOOK are as ahead of it; HOUSES told since have PURSE 0, PALE 0)");
        NoonOnABarrow x = Due.ruled("hard 3;earns if here=7 then -7 else 5-here end;");
        for (int i = 0; i < 7; i++) {
            x.house(0);
        }
        x.lane(0, 1, 1);
        x.lane(6, 0, 1);
        x.pusher(1);
        x.pusher(2);
        x.push(6, 1);
        x.minute(1);
        x.house(0);
        Due.is("a debt of the new one", x.minute(1), 1);
        barrowIs("there", x, 6, -1, 0, -1, 97);
        Due.is("purse of 7", x.of(7, 1), -7);
        Due.is("pale of 7", x.of(7, 2), 1);
        Due.is("purse of 6", x.of(6, 1), -2);
        Due.is("debts", x.book(-1, 0), 2);
        Due.is("undo", x.undo(), 2);
        barrowIs("on its way", x, 0, 6, 1, 1, 98);
        Due.is("purse of 7", x.of(7, 1), 0);
        Due.is("pale of 7", x.of(7, 2), 0);
        Due.is("purse of 6", x.of(6, 1), -1);
        Due.is("pale of 6", x.of(6, 2), 1);
        Due.is("debts", x.book(-1, 0), 1);
        Due.is("minute", x.about(2), 1);
        x.minute(1);
        x.minute(1);
        Due.is("again", x.of(7, 1), -14);
        x.undo();
        Due.is("one of both", x.of(7, 1), -7);
        x.undo();
        x.undo();
        Due.is("told since: purse", x.of(7, 1), 0);
        Due.is("told since: pale", x.of(7, 2), 0);
        Due.is("told since: it stays", x.about(0), 8);
        barrowIs("on its way", x, 0, 6, 3, 1, 99);
        x.undo();
        barrowIs("as at first", x, 0, -1, 0, -1, 99);
    }

    private static int changed(int x, int times) {
        long now = x;
        for (int i = 0; i < times; i++) {
            now = (now * 283 + 193) % 30313;
        }
        return (int) now;
    }

    private static void years() {
        Due.sentence("YEARS by a SEED: X is SEED (0 .. 9999) * 2 + 89; n times (1 .. 30): a draw by 6");
        NoonOnABarrow x = new NoonOnABarrow();
        x.house(0);
        for (int seed : new int[] {0, 1, 4999, 9998, 9999}) {
            for (int n : new int[] {1, 2, 29, 30}) {
                int minute = x.about(2);
                int minutes = 0;
                for (int i = 0; i < n; i++) {
                    minutes += changed(seed * 2 + 89, i) % 6 > 3 ? 1 : 0;
                }
                Due.is("years(" + seed + ", " + n + ")", x.years(seed, n), minute + minutes);
                Due.is("x", x.about(3), changed(seed * 2 + 89, n));
            }
        }
        Due.sentence("A draw by m: X mod m, X being (X * 283 + 193) mod 30313 then.");
        int[][] ends = {{3522, 25, 0}, {1930, 19, 1}, {1327, 2, 2}, {1479, 18, 30311}, {737, 28, 30312}};
        for (int[] e : ends) {
            x.years(e[0], e[1]);
            Due.is("x at an end of its range", x.about(3), e[2]);
            if (e[1] < 30) {
                x.years(e[0], e[1] + 1);
                Due.is("x behind it", x.about(3), (e[2] * 283 + 193) % 30313);
            }
        }
        Due.sentence("YEARS: MINUTE. NONE for others, and without HOUSES.");
        int then = x.about(3);
        Due.is("seed -1", x.years(-1, 1), -1);
        Due.is("seed 10000", x.years(10000, 1), -1);
        Due.is("no year", x.years(5, 0), -1);
        Due.is("31 years", x.years(5, 31), -1);
        Due.is("x is as it was", x.about(3), then);
        Due.sentence("It is one STEP: MINUTE.");
        Due.is("one each", x.about(6), 30);
        NoonOnABarrow none = new NoonOnABarrow();
        Due.is("without houses", none.years(0, 1), -1);
        Due.is("no step", none.about(6), 0);
        Due.is("x", none.about(3), 89);
    }

    /** A seed whose draws by the numbers told are these. The first X is odd, so the first draw by 6 is, too. */
    private static int seed(int[] by, int[] drawn) {
        for (int seed = 0; seed < 10000; seed++) {
            boolean so = true;
            for (int i = 0; so && i < by.length; i++) {
                so = changed(seed * 2 + 89, i) % by[i] == drawn[i];
            }
            if (so) {
                return seed;
            }
        }
        throw new IllegalStateException("no seed draws so");
    }

    private static void drawsByHowManyThereAre() {
        Due.sentence("0, 1: it is PUSHED (if that can be) to a HOUSE drawn by how many there are by a PUSHER drawn by how many there are (both drawn ahead, if there are PUSHERS; without: nothing)");
        for (int first = 0; first < 2; first++) {
            for (int house = 0; house < 8; house++) {
                NoonOnABarrow x = State.FULL.come();
                int pusher = house % 4;
                int seed = seed(new int[] {6, 6, 8, 4}, new int[] {3, first, house, pusher});
                int minute = x.about(2);
                Due.is("years", x.years(seed, 2), minute);
                boolean leads = house == 1 || house == 7;
                Due.is("to " + house, x.barrow(1), leads ? house : -1);
                Due.is("by " + pusher, x.barrow(3), leads ? pusher : -1);
                Due.is("four draws", x.about(3), changed(seed * 2 + 89, 4));
            }
        }
        NoonOnABarrow x = State.GOING.come();
        int left = x.barrow(2);
        int seed = seed(new int[] {6, 4, 2}, new int[] {1, 1, 1});
        x.years(seed, 1);
        Due.is("on its way it can't be", x.barrow(2), left);
        Due.is("by whom it was", x.barrow(3), 0);
        Due.is("three draws yet", x.about(3), changed(seed * 2 + 89, 3));
        NoonOnABarrow bare = State.BARE.come();
        bare.lane(0, 1, 1);
        for (int drawn = 0; drawn < 2; drawn++) {
            seed = seed(new int[] {6, 6}, new int[] {3, drawn});
            Due.is("without pushers nothing", bare.years(seed, 2), 0);
            Due.is("two draws", bare.about(3), changed(seed * 2 + 89, 2));
            barrowIs("as it was", bare, 0, -1, 0, -1, 99);
        }
        NoonOnABarrow one = new NoonOnABarrow();
        one.house(0);
        one.pusher(1);
        seed = seed(new int[] {6}, new int[] {1});
        one.years(seed, 1);
        Due.is("one house, one pusher: three draws", one.about(3), changed(seed * 2 + 89, 3));
        Due.is("to itself it can't be", one.barrow(1), -1);
    }

    private static void tippedAndMendedAsDrawn() {
        Due.sentence("2: it is TIPPED, if it can be; 3: MENDED; 4, 5: a MINUTE (if it can pass).");
        int two = seed(new int[] {6, 6}, new int[] {3, 2});
        int three = seed(new int[] {6}, new int[] {3});
        NoonOnABarrow x = pair("hard 1;wears 40;", 1);
        x.years(two, 2);
        barrowIs("it lies: nothing", x, 0, -1, 0, -1, 99);
        Due.is("a step yet", x.about(6), 1);
        x.push(1, 0);
        x.years(two, 2);
        barrowIs("tipped with 1 left", x, 0, -1, 0, -1, 94);
        Due.is("x", x.about(3), changed(two * 2 + 89, 2));
        x.years(three, 1);
        barrowIs("mended", x, 0, -1, 0, -1, 99);
        x.years(three, 1);
        barrowIs("mended again", x, 0, -1, 0, -1, 99);
        Due.is("each a step", x.about(6), 5);
        for (int drawn = 4; drawn < 6; drawn++) {
            NoonOnABarrow y = pair("hard 2;wears 40;", 1);
            y.push(1, 0);
            int seed = seed(new int[] {6, 6}, new int[] {3, drawn});
            Due.is("a minute", y.years(seed, 2), 1);
            barrowIs("a minute on", y, 0, 1, 1, 0, 59);
            Due.is("purse", y.of(0, 1), 12);
            Due.is("a step", y.about(6), 2);
        }
    }

    private static void yearsAtTheLastMinute() {
        Due.sentence("4, 5: a MINUTE (if it can pass).");
        int twice = seed(new int[] {6, 6, 6}, new int[] {5, 4, 5});
        NoonOnABarrow x = State.EVENING.come();
        x.minute(28);
        Due.is("9998", x.about(2), 9998);
        Due.is("one of three can", x.years(twice, 3), 9999);
        Due.is("all are drawn", x.about(3), changed(twice * 2 + 89, 3));
        x.undo();
        Due.is("9998", x.about(2), 9998);
        Due.is("one can", x.years(twice, 1), 9999);
        int purse = x.of(0, 1);
        Due.is("none can", x.years(twice, 3), 9999);
        Due.is("no purse is more", x.of(0, 1), purse);
        NoonOnABarrow y = State.EVENING.come();
        y.minute(26);
        Due.is("9996 and three", y.years(twice, 3), 9999);
    }

    public static void main(String[] args) {
        pushedOneAtLeast();
        tippedZeroAtLeast();
        mended();
        leftIsLess();
        wheelsAreLess();
        leftIs9999AtMost();
        purseIsHeld();
        debts();
        theLatestThirtyDebts();
        pale();
        allAsThen();
        minutesOneToSixty();
        theLatestThirtySteps();
        theLatestThirtyOfMany();
        asAheadOfIt();
        years();
        drawsByHowManyThereAre();
        tippedAndMendedAsDrawn();
        yearsAtTheLastMinute();
        Due.close();
    }
}
