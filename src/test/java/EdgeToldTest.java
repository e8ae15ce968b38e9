/** Each sentence on what is told, at its edges: the last value that is taken, the first that is not; empty; full, and one more. */
public final class EdgeToldTest {
    private static NoonOnABarrow houses(int n) {
        NoonOnABarrow x = new NoonOnABarrow();
        for (int i = 0; i < n; i++) {
            x.house(0);
        }
        return x;
    }

    private static void aNewObject() {
        Due.sentence("No HOUSES; THE IMAGE is this.");
        NoonOnABarrow x = new NoonOnABarrow();
        Due.is("about(0)", x.about(0), 0);
        Due.is("of(0, 0)", x.of(0, 0), -1000);
        Due.is("back() at once", x.back(), 0);
        Due.is("about(0)", x.about(0), 0);
        x.house(7);
        x.pusher(3);
        x.minute(5);
        x.want(0, 12);
        Due.is("back()", x.back(), 0);
        Due.is("no house", x.about(0), 0);
        Due.is("no pusher", x.about(1), 0);
        Due.is("no step", x.about(6), 0);
        Due.is("nothing wanted", x.about(7), 0);
        Due.is("the first house again", x.house(2), 0);
        Due.is("its own hill", x.of(0, 0), 2);
    }

    private static void atFirst() {
        Due.sentence("THE BARROW: at a HOUSE (at first 0)");
        NoonOnABarrow x = houses(3);
        Due.is("house", x.barrow(0), 0);
        Due.is("hour of 0", x.of(0, 3), 12);
        Due.sentence("(LEFT; 0: it lies)");
        Due.is("left", x.barrow(2), 0);
        Due.is("to", x.barrow(1), -1);
        Due.is("pusher", x.barrow(3), -1);
        Due.sentence("WHEELS 0 .. 99 (told; at first 99)");
        Due.is("wheels", x.barrow(4), 99);
        Due.sentence("MINUTE 0 .. 9999 (at first 0).");
        Due.is("minute", x.about(2), 0);
        Due.sentence("X: at first 89.");
        Due.is("x", x.about(3), 89);
        Due.sentence("PURSE -999 .. 9999 (at first 0), PALE 0 .. 99 (at first 0).");
        x.minute(3);
        int late = x.house(5);
        Due.is("purse of one told late", x.of(late, 1), 0);
        Due.is("pale of one told late", x.of(late, 2), 0);
        Due.is("purse of 0", x.of(0, 1), 36);
        Due.is("pale of 1", x.of(1, 2), 3);
    }

    private static void housesOneByOne() {
        Due.sentence("HOUSES 0 .. 7 (told one by one): HILL 0 .. 9");
        NoonOnABarrow x = new NoonOnABarrow();
        for (int i = 0; i < 8; i++) {
            Due.is("of one that isn't told", x.of(i, 0), -1000);
            Due.is("house number", x.house(i + 1), i);
            Due.is("how many", x.about(0), i + 1);
            Due.is("its hill", x.of(i, 0), i + 1);
        }
        Due.is("the first's hill still", x.of(0, 0), 1);
        Due.sentence("A HOUSE: its number. NONE for others, or if there are 8.");
        Due.is("the 9th", x.house(0), -1);
        Due.is("how many", x.about(0), 8);
        Due.is("the 8th as it was", x.of(7, 0), 8);
        NoonOnABarrow y = new NoonOnABarrow();
        Due.is("hill -1", y.house(-1), -1);
        Due.is("hill 10", y.house(10), -1);
        Due.is("none is told", y.about(0), 0);
        Due.is("hill 0", y.house(0), 0);
        Due.is("hill 9", y.house(9), 1);
        Due.is("hill 10", y.house(10), -1);
        Due.is("the next number is not lost", y.house(1), 2);
    }

    private static void pushersOneByOne() {
        Due.sentence("PUSHERS 0 .. 3 (told one by one): STRENGTH 1 .. 9.");
        NoonOnABarrow x = houses(2);
        x.lane(0, 1, 9);
        int[] strengths = {9, 1, 2, 8};
        Due.is("strength 0", x.pusher(0), -1);
        for (int i = 0; i < 4; i++) {
            Due.is("one that isn't told", x.hard(0, 1, i), -1);
            Due.is("pusher number", x.pusher(strengths[i]), i);
            Due.is("how many", x.about(1), i + 1);
            Due.is("strength 10", x.pusher(10), -1);
            Due.is("told now", x.hard(0, 1, i), 27);
        }
        Due.sentence("A PUSHER: its number. NONE for others, or if there are 4.");
        Due.is("the 5th", x.pusher(5), -1);
        Due.is("how many", x.about(1), 4);
        for (int i = 0; i < 4; i++) {
            x.push(1, i);
            x.minute(1);
            Due.is("by its strength", x.barrow(2), 27 - strengths[i]);
            x.undo();
            x.undo();
        }
    }

    private static void lanesOfUnlikeOnes() {
        Due.sentence("LANES of two unlike HOUSES: 1 .. 9 long, or none (told, both ways alike; at first none).");
        NoonOnABarrow x = houses(8);
        for (int one = 0; one < 8; one++) {
            for (int other = 0; other < 8; other++) {
                Due.is("at first none", x.two(one, other, 1), 0);
            }
        }
        Due.so("1 long", x.lane(0, 7, 1), true);
        Due.so("9 long", x.lane(7, 6, 9), true);
        Due.so("10 long", x.lane(0, 7, 10), false);
        Due.so("-1 long", x.lane(0, 7, -1), false);
        Due.is("as it was", x.two(0, 7, 1), 1);
        Due.is("back alike", x.two(7, 0, 1), 1);
        Due.is("as told", x.two(7, 6, 1), 9);
        Due.is("back alike", x.two(6, 7, 1), 9);
        Due.is("no other one", x.two(0, 6, 1), 0);
        Due.so("told anew from the other end", x.lane(7, 0, 4), true);
        Due.is("anew", x.two(0, 7, 1), 4);
        Due.sentence("A LANE (0: none): true. False for others (unlike ones).");
        Due.so("none", x.lane(0, 7, 0), true);
        Due.is("none", x.two(0, 7, 1), 0);
        Due.is("none back", x.two(7, 0, 1), 0);
        Due.is("no way", x.two(0, 7, 0), 99);
        Due.so("none again", x.lane(0, 7, 0), true);
        Due.so("of one and itself", x.lane(7, 7, 1), false);
        Due.so("none of one and itself", x.lane(7, 7, 0), false);
        NoonOnABarrow two = houses(2);
        Due.so("to the first that isn't told", two.lane(0, 2, 1), false);
        Due.so("from the first that isn't told", two.lane(2, 0, 1), false);
        Due.so("to -1", two.lane(0, -1, 1), false);
        Due.so("of the last two", two.lane(1, 0, 1), true);
        two.house(0);
        Due.is("no lane was kept for it", two.two(0, 2, 1), 0);
    }

    private static void far() {
        Due.sentence("FAR of two HOUSES: the shortest way by LANES (0: itself; 99: there is none).");
        NoonOnABarrow x = houses(8);
        for (int i = 0; i < 7; i++) {
            Due.is("none yet", x.two(0, i + 1, 0), 99);
            x.lane(i, i + 1, 9);
            Due.is("the longest ways", x.two(0, i + 1, 0), 9 * (i + 1));
        }
        Due.is("back alike", x.two(7, 0, 0), 63);
        Due.is("itself", x.two(7, 7, 0), 0);
        x.lane(0, 7, 9);
        Due.is("round about", x.two(0, 7, 0), 9);
        Due.is("4 on either side", x.two(0, 4, 0), 36);
        Due.is("3 that way round", x.two(0, 5, 0), 27);
        x.lane(3, 7, 1);
        Due.is("over the short one", x.two(0, 3, 0), 10);
        x.lane(3, 7, 0);
        Due.is("without it", x.two(0, 3, 0), 27);
    }

    /** Noon is at HOUSE 1 of four; 0 and 2 are as far as told, 3 is apart. */
    private static int[] hours(int toZero, int toTwo) {
        NoonOnABarrow x = houses(6);
        x.lane(1, 4, Math.min(9, toZero));
        x.lane(4, 0, toZero > 9 ? toZero - 9 : 0);
        x.lane(1, 5, Math.min(9, toTwo));
        x.lane(5, 2, toTwo > 9 ? toTwo - 9 : 0);
        x.lane(0, 1, toZero > 9 ? 0 : toZero);
        x.lane(2, 1, toTwo > 9 ? 0 : toTwo);
        x.house(0);
        x.lane(0, 6, 1);
        x.pusher(9);
        x.lane(6, 1, 1);
        x.push(6, 0);
        x.minute(1);
        x.push(1, 0);
        x.minute(1);
        x.lane(0, 6, 0);
        x.lane(6, 1, 0);
        return new int[] {x.of(0, 3), x.of(1, 3), x.of(2, 3), x.of(3, 3), x.barrow(0)};
    }

    private static void hour() {
        Due.sentence("12 less FAR from THE BARROW's HOUSE (while it is on its way, from the one it left), if the HOUSE's number is no more than that one's, else 12 more by it; from 0 to 23 held.");
        int[][] due = {{1, 1, 11, 13}, {9, 9, 3, 21}, {10, 10, 2, 22}, {11, 11, 1, 23}, {12, 12, 0, 23}, {13, 13, 0, 23}, {18, 18, 0, 23}};
        for (int[] d : due) {
            int[] hours = hours(d[0], d[1]);
            Due.is("noon's house", hours[4], 1);
            Due.is("a lower number, far " + d[0], hours[0], d[2]);
            Due.is("its own number", hours[1], 12);
            Due.is("a higher number, far " + d[1], hours[2], d[3]);
            Due.is("a higher number, no way", hours[3], 23);
        }
        NoonOnABarrow x = houses(3);
        x.lane(1, 2, 5);
        x.lane(0, 1, 2);
        x.pusher(1);
        x.push(1, 0);
        Due.is("on its way: the one it left", x.of(0, 3), 12);
        Due.is("on its way: the other one", x.of(1, 3), 14);
        x.minute(6);
        Due.is("there", x.of(1, 3), 12);
        Due.is("the one it left", x.of(0, 3), 10);
        x.lane(0, 1, 0);
        Due.is("a lower number, no way", x.of(0, 3), 0);
    }

    private static void wantedEightAtMost() {
        Due.sentence("WANTED (8 at most; told): a HOUSE, an HOUR 0 .. 23.");
        NoonOnABarrow x = houses(8);
        Due.is("hour -1", x.want(0, -1), -2);
        Due.is("hour 24", x.want(0, 24), -2);
        Due.is("hour 0", x.want(0, 0), 1);
        Due.is("hour 23", x.want(7, 23), 2);
        Due.is("house 8", x.want(8, 12), -2);
        Due.is("house -2", x.want(-2, 12), -2);
        for (int i = 3; i <= 8; i++) {
            Due.is("the same again", x.want(7, 23), i);
            Due.is("how many", x.about(7), i);
        }
        Due.is("the 9th", x.want(7, 23), -2);
        Due.is("how many", x.about(7), 8);
        Due.sentence("WANTED: how many there are (house NONE: none any more). -2 for others, or if there are 8.");
        Due.is("none any more", x.want(-1, 0), 0);
        Due.is("how many", x.about(7), 0);
        Due.is("all fit", x.fitting(), 255);
        Due.is("none any more of none", x.want(-1, 23), 0);
        Due.is("from the first on", x.want(3, 12), 1);
        Due.is("by the new one alone", x.fitting(), 8);
        Due.is("felt is not wanted", x.about(8), 0);
    }

    private static void feltEightAtMost() {
        Due.sentence("FELT (8 at most; told): a HOUSE, how warm it was 0 .. 99.");
        NoonOnABarrow x = houses(8);
        Due.is("warm -1", x.feel(0, -1), -2);
        Due.is("warm 100", x.feel(0, 100), -2);
        Due.is("warm 0", x.feel(0, 0), 1);
        Due.is("warm 99", x.feel(7, 99), 2);
        Due.is("house 8", x.feel(8, 1), -2);
        Due.is("house -2", x.feel(-2, 1), -2);
        for (int i = 3; i <= 8; i++) {
            Due.is("the same again", x.feel(0, 0), i);
            Due.is("how many", x.about(8), i);
        }
        Due.is("the 9th", x.feel(0, 0), -2);
        Due.is("how many", x.about(8), 8);
        Due.sentence("FELT: how many there are (house NONE: none any more). -2 for others, or if there are 8.");
        Due.is("none any more", x.feel(-1, 0), 0);
        Due.is("how many", x.about(8), 0);
        Due.is("anywhere", x.lost(), 255);
        Due.is("none any more of none", x.feel(-1, 99), 0);
        Due.is("from the first on", x.feel(3, 30), 1);
        Due.is("by the new one alone", x.lost(), 8);
        Due.is("wanted is not felt", x.about(7), 0);
    }

    private static void weights() {
        Due.sentence("WEIGHT (told, 1 .. 9; at first 1)");
        NoonOnABarrow x = houses(2);
        Due.is("alike at first", x.fair(1), 0);
        Due.is("alike at first", x.fair(3), 0);
        Due.so("weight 0", x.weight(1, 0), false);
        Due.so("weight 10", x.weight(1, 10), false);
        Due.is("as it was", x.fair(1), 0);
        Due.so("weight 9", x.weight(1, 9), true);
        Due.is("the greater one", x.fair(1), 1);
        Due.so("weight 1", x.weight(1, 1), true);
        Due.is("alike again", x.fair(1), 0);
        Due.so("of the first that isn't told", x.weight(2, 9), false);
        x.house(0);
        Due.is("its weight is 1", x.fair(1), 0);
        Due.so("of the last", x.weight(2, 2), true);
        Due.is("the greater one", x.fair(1), 2);
    }

    private static void tellingIsNoStep() {
        Due.sentence("STEPS: PUSHED, TIPPED, MENDED, a MINUTE (each), YEARS (see below)");
        NoonOnABarrow x = houses(2);
        x.minute(1);
        x.house(4);
        x.lane(0, 1, 3);
        x.pusher(2);
        x.weight(2, 5);
        x.want(0, 12);
        x.feel(1, 30);
        Due.is("text", Due.text(x, "earns 7;"), 0);
        x.by(0);
        Due.is("one step", x.about(6), 1);
        Due.is("it is taken back", x.undo(), 0);
        int[] about = {3, 1, 0, 89, 1, 0, 0, 1, 1, 0};
        for (int what = 0; what < 10; what++) {
            Due.is("about(" + what + ") is as told", x.about(what), about[what]);
        }
        Due.is("the lane stays", x.two(0, 1, 1), 3);
        Due.is("the weight stays", x.fair(1), 2);
        Due.is("the law stays", x.of(0, 4), 7);
        Due.is("no more", x.undo(), -1);
    }

    public static void main(String[] args) {
        aNewObject();
        atFirst();
        housesOneByOne();
        pushersOneByOne();
        lanesOfUnlikeOnes();
        far();
        hour();
        wantedEightAtMost();
        feltEightAtMost();
        weights();
        tellingIsNoStep();
        Due.close();
    }
}
