/** Each sentence on what is asked of routes, votes, shares, fog, thieves and watches, at its edges. */
public final class EdgeAskedTest {
    private static NoonOnABarrow houses(int n) {
        NoonOnABarrow x = new NoonOnABarrow();
        for (int i = 0; i < n; i++) {
            x.house(0);
        }
        return x;
    }

    private static NoonOnABarrow line(int n, int length) {
        NoonOnABarrow x = houses(n);
        for (int i = 1; i < n; i++) {
            x.lane(i - 1, i, length);
        }
        return x;
    }

    private static void fitting() {
        Due.sentence("A PLACE of noon FITS, if by it (as if THE BARROW lay there) all WANTED are so: FITTING: HOUSES (bits).");
        for (int n = 0; n <= 8; n++) {
            Due.is("nothing is wanted of " + n, houses(n).fitting(), (1 << n) - 1);
        }
        NoonOnABarrow x = line(8, 2);
        x.want(7, 12);
        Due.is("the last", x.fitting(), 128);
        x.want(0, 0);
        Due.is("14 off is held at 0", x.fitting(), 128);
        x.want(0, 12);
        Due.is("both can't be", x.fitting(), 0);
        x.want(-1, 0);
        x.want(7, 23);
        Due.is("14, 12 off are held at 23", x.fitting(), 3);
        x.want(-1, 0);
        x.want(0, 0);
        Due.is("12 off, and 14", x.fitting(), 192);
        x.want(-1, 0);
        x.want(0, 2);
        Due.is("10 off", x.fitting(), 32);
        for (int i = 1; i < 7; i++) {
            x.want(0, 2);
        }
        Due.is("seven alike", x.fitting(), 32);
        Due.is("an 8th", x.want(7, 15), 8);
        Due.is("the 8th counts", x.fitting(), 0);
        x.pusher(1);
        x.want(-1, 0);
        x.want(1, 12);
        x.push(1, 0);
        Due.is("as if it lay there", x.fitting(), 2);
    }

    private static void routeOfNone() {
        Due.sentence("A ROUTE: how many LANES (i NONE), the i-th HOUSE behind the first. -2: none (without HOUSES, too), there is none such, and for others.");
        NoonOnABarrow none = new NoonOnABarrow();
        Due.is("without houses", none.route(-1), -2);
        Due.is("without houses", none.route(0), -2);
        NoonOnABarrow x = line(2, 1);
        Due.is("nothing is wanted", x.route(-1), 0);
        Due.is("nothing is wanted", x.route(0), -2);
        Due.is("-2", x.route(-2), -2);
        x.want(1, 12);
        Due.is("a lane of 1", x.route(-1), 1);
        Due.is("to 1", x.route(0), 1);
        Due.is("no second", x.route(1), -2);
        Due.is("-2", x.route(-2), -2);
        x.lane(0, 1, 0);
        Due.is("no lane: none", x.route(-1), -2);
        Due.is("no lane: none", x.route(0), -2);
        x.want(-1, 0);
        x.want(1, 23);
        Due.is("so at the first", x.route(-1), 0);
        x.want(0, 11);
        Due.is("never so", x.route(-1), -2);
    }

    private static void theLongestRoute() {
        Due.sentence("by which all WANTED are so one behind the other in the order told");
        NoonOnABarrow x = line(8, 1);
        for (int i = 0; i < 8; i++) {
            x.want(i % 2 == 0 ? 7 : 0, 12);
        }
        Due.is("56 lanes", x.route(-1), 56);
        for (int i = 0; i < 56; i++) {
            int leg = i / 7;
            Due.is("route(" + i + ")", x.route(i), leg % 2 == 0 ? i % 7 + 1 : 6 - i % 7);
        }
        Due.is("route(56)", x.route(56), -2);
        x.want(-1, 0);
        for (int i = 0; i < 7; i++) {
            x.want(i % 2 == 0 ? 7 : 0, 12);
        }
        Due.is("49 lanes", x.route(-1), 49);
        Due.is("ends at the last", x.route(48), 7);
        Due.is("route(49)", x.route(49), -2);
        Due.is("an 8th, so as well there", x.want(0, 5), 8);
        Due.is("49 lanes", x.route(-1), 49);
        NoonOnABarrow all = line(8, 1);
        for (int i = 0; i < 8; i++) {
            all.want(i, i + 5);
        }
        Due.is("all eight at once", all.route(-1), 7);
        Due.is("at the last", all.route(6), 7);
    }

    private static void asManyAsAreSo() {
        Due.sentence("at each HOUSE that is come to (the first one, too) as many of the next ones are done as are so with noon there (none may be)");
        NoonOnABarrow x = line(3, 2);
        x.want(0, 12);
        x.want(1, 14);
        x.want(2, 16);
        Due.is("three at the first", x.route(-1), 0);
        x.want(0, 10);
        Due.is("then one at 1", x.route(-1), 1);
        x.want(2, 12);
        Due.is("then one at 2", x.route(-1), 2);
        x.want(2, 12);
        Due.is("the same again is so there", x.route(-1), 2);
        x.want(0, 12);
        Due.is("back over 1, where none is", x.route(-1), 4);
        int[] due = {1, 2, 1, 0};
        for (int i = 0; i < 4; i++) {
            Due.is("route(" + i + ")", x.route(i), due[i]);
        }
        Due.sentence("A ROUTE from THE BARROW's HOUSE (as it lies there, or left) by LANES");
        x.want(-1, 0);
        x.want(1, 12);
        x.pusher(1);
        x.push(1, 0);
        Due.is("from the one it left", x.route(-1), 1);
        x.minute(5);
        Due.is("with 1 left yet", x.barrow(2), 1);
        Due.is("from the one it left", x.route(-1), 1);
        x.minute(1);
        Due.is("there", x.route(-1), 0);
    }

    private static void theFewestTheLowest() {
        Due.sentence("the fewest LANES; of like ones by HOUSES the lowest: how many, the i-th HOUSE behind the first; none.");
        NoonOnABarrow x = houses(8);
        x.lane(0, 2, 1);
        x.lane(0, 6, 1);
        x.lane(2, 5, 1);
        x.lane(6, 1, 1);
        x.lane(5, 7, 1);
        x.lane(1, 7, 1);
        x.want(7, 12);
        int[] low = {2, 5, 7};
        Due.is("three either way", x.route(-1), 3);
        for (int i = 0; i < 3; i++) {
            Due.is("the first unlike one tells", x.route(i), low[i]);
        }
        x.lane(0, 3, 9);
        x.lane(3, 7, 9);
        Due.is("two long ones are fewer", x.route(-1), 2);
        Due.is("over 3", x.route(0), 3);
        x.lane(0, 4, 1);
        x.lane(4, 7, 1);
        Due.is("the lower one, though longer", x.route(0), 3);
        x.lane(0, 7, 9);
        Due.is("one is the fewest", x.route(-1), 1);
        Due.is("to 7", x.route(0), 7);
        NoonOnABarrow ends = houses(4);
        ends.lane(0, 1, 1);
        ends.lane(0, 2, 1);
        ends.lane(0, 3, 1);
        ends.want(0, 11);
        Due.is("1, 2 or 3", ends.route(-1), 1);
        Due.is("the lowest", ends.route(0), 1);
    }

    private static void leastPushing() {
        Due.sentence("LEAST PUSHING: how much (i -2), how many LANES (i NONE), the i-th HOUSE behind the first. -3: none, there is none such, and for others.");
        NoonOnABarrow x = Due.ruled("hard 999;");
        for (int i = 0; i < 8; i++) {
            x.house(0);
        }
        for (int i = 1; i < 8; i++) {
            x.lane(i - 1, i, 1);
        }
        Due.is("without pushers", x.least(7, 0, -2), -3);
        for (int i = 0; i < 4; i++) {
            x.pusher(1);
        }
        for (int h = 0; h < 8; h++) {
            Due.is("how much to " + h, x.least(h, 3, -2), 999 * h);
            Due.is("how many to " + h, x.least(h, 3, -1), h);
            for (int i = 0; i < h; i++) {
                Due.is("the i-th", x.least(h, 3, i), i + 1);
            }
            Due.is("one more", x.least(h, 3, h), -3);
            Due.is("-3", x.least(h, 3, -3), -3);
            Due.is("pusher 4", x.least(h, 4, -2), -3);
            Due.is("pusher -1", x.least(h, -1, -2), -3);
        }
        Due.is("house 8", x.least(8, 0, -2), -3);
        Due.is("house -1", x.least(-1, 0, -2), -3);
        x.lane(6, 7, 0);
        Due.is("no way", x.least(7, 0, -2), -3);
        Due.is("no way", x.least(7, 0, -1), -3);
        Due.sentence("LEAST PUSHING to a HOUSE, if THE BARROW lies, by one PUSHER");
        NoonOnABarrow y = Due.ruled("hard 1;");
        y.house(0);
        y.house(0);
        y.lane(0, 1, 1);
        y.pusher(1);
        Due.is("1", y.least(1, 0, -2), 1);
        y.push(1, 0);
        Due.is("with 1 left it doesn't lie", y.least(1, 0, -2), -3);
        Due.is("nor to where it was", y.least(0, 0, -2), -3);
        y.minute(1);
        Due.is("it lies", y.least(1, 0, -2), 0);
        Due.is("and back", y.least(0, 0, -2), 1);
        Due.is("to 0", y.least(0, 0, 0), 0);
    }

    private static void leastOverTheLast() {
        Due.sentence("what hard says of the LANES together on the way (as now): least; of like ones by HOUSES the lowest: how much, how many LANES, the i-th HOUSE behind the first; none.");
        NoonOnABarrow x = houses(8);
        x.pusher(1);
        x.lane(0, 7, 1);
        x.lane(7, 6, 1);
        x.lane(0, 6, 9);
        Due.is("over 7", x.least(6, 0, -2), 6);
        Due.is("two", x.least(6, 0, -1), 2);
        Due.is("over 7", x.least(6, 0, 0), 7);
        x.lane(0, 6, 2);
        Due.is("like ones", x.least(6, 0, -2), 6);
        Due.is("6 is lower than 7", x.least(6, 0, 0), 6);
        Due.is("one", x.least(6, 0, -1), 1);
        x.lane(0, 3, 1);
        x.lane(3, 6, 1);
        Due.is("3 is lower yet", x.least(6, 0, 0), 3);
        Due.is("two", x.least(6, 0, -1), 2);
        NoonOnABarrow back = houses(8);
        back.pusher(9);
        back.lane(0, 7, 1);
        back.push(7, 0);
        back.minute(1);
        back.lane(0, 1, 1);
        back.lane(7, 1, 9);
        Due.is("from 7 over 0", back.least(1, 0, -2), 6);
        Due.is("over 0", back.least(1, 0, 0), 0);
        Due.is("to 1", back.least(1, 0, 1), 1);
        NoonOnABarrow hills = new NoonOnABarrow();
        hills.house(0);
        hills.house(9);
        hills.house(0);
        hills.house(2);
        hills.pusher(1);
        hills.lane(0, 1, 1);
        hills.lane(1, 2, 1);
        hills.lane(0, 3, 2);
        hills.lane(3, 2, 2);
        Due.is("9 up and 1 down, or 8 and 4", hills.least(2, 0, -2), 12);
        Due.is("the way over 3", hills.least(2, 0, 0), 3);
    }

    private static void votes() {
        Due.sentence("WINNER: the HOUSE that beats all others; none.");
        int[] due = {-1, 0, -1, 1, -1, 2, -1, 3, -1};
        for (int n = 0; n <= 8; n++) {
            int winner = line(n, 1).winner();
            if (n % 2 == 1 || n == 0) {
                Due.is("on a line of " + n, winner, due[n]);
            }
        }
        Due.is("two: one each", line(2, 1).winner(), -1);
        Due.sentence("VOTES: each HOUSE puts HOUSES in order of how near they are to it (FAR, of like ones the lowest).");
        Due.is("three apart: the lowest has two", houses(3).winner(), 0);
        Due.is("eight apart: the lowest has seven", houses(8).winner(), 0);
        NoonOnABarrow star = houses(8);
        for (int i = 0; i < 7; i++) {
            star.lane(7, i, 1);
        }
        Due.is("the middle of a star", star.winner(), 7);
        Due.sentence("BEATS: one HOUSE beats another one, if more HOUSES put it ahead than behind.");
        NoonOnABarrow four = line(4, 1);
        Due.is("0 and 3: two each", four.agenda(3, 2), 0);
        Due.is("3 and 0: two each", four.agenda(30, 2), 3);
        Due.is("1 and 0: three to one", four.agenda(1, 2), 1);
        Due.is("1 and 2: two each", four.agenda(12, 2), 1);
        Due.is("2 and 1: two each", four.agenda(21, 2), 2);
        Due.is("so none beats all", four.winner(), -1);
    }

    private static void agendaOneToEight() {
        Due.sentence("AGENDA: a row of n HOUSES (1 to 8 unlike ones, as digits from the left, as a number)");
        NoonOnABarrow x = houses(8);
        for (int i = 0; i < 7; i++) {
            x.lane(7, i, 1);
        }
        for (int h = 0; h < 8; h++) {
            Due.is("one alone", x.agenda(h, 1), h);
        }
        Due.is("8 isn't one", x.agenda(8, 1), -1);
        Due.is("9 isn't one", x.agenda(9, 1), -1);
        Due.is("a row of none", x.agenda(0, 0), -1);
        Due.is("a row of -1", x.agenda(0, -1), -1);
        Due.is("all eight", x.agenda(12345670, 8), 7);
        Due.is("0 ahead of all", x.agenda(1234567, 8), 7);
        Due.is("7 first", x.agenda(76543210, 8), 7);
        Due.is("nine", x.agenda(123456708, 9), -1);
        Due.is("0 twice ahead", x.agenda(1, 3), -1);
        Due.is("0 once ahead", x.agenda(12, 3), 0);
        Due.is("too many digits", x.agenda(123, 2), -1);
        Due.is("too many digits by one ahead", x.agenda(112345670, 8), -1);
        Due.is("alike", x.agenda(11, 2), -1);
        Due.is("alike, far off", x.agenda(12341, 5), -1);
        Due.is("8 in it", x.agenda(12845670, 8), -1);
        Due.is("9 in it", x.agenda(92345670, 8), -1);
        Due.is("below 0", x.agenda(-12, 2), -1);
        Due.is("the greatest number", x.agenda(Integer.MAX_VALUE, 8), -1);
        Due.is("the least number", x.agenda(Integer.MIN_VALUE, 8), -1);
        NoonOnABarrow three = houses(3);
        Due.is("2 is the last", three.agenda(2, 1), 2);
        Due.is("3 isn't told", three.agenda(3, 1), -1);
        Due.is("3 in it isn't told", three.agenda(130, 3), -1);
        Due.is("without houses", new NoonOnABarrow().agenda(0, 1), -1);
        Due.sentence("the first against the second, who is beaten is out (of like ones the first stays), the winner against the third, ..: who is left.");
        NoonOnABarrow two = line(2, 1);
        Due.is("alike: the first", two.agenda(1, 2), 0);
        Due.is("alike: the first", two.agenda(10, 2), 1);
        Due.is("2 is beaten by 0, 1 isn't", three.agenda(201, 3), 0);
        NoonOnABarrow five = line(5, 1);
        Due.is("the last comes in", five.agenda(1342, 5), 2);
        Due.is("the first stays", five.agenda(20134, 5), 2);
    }

    private static void fairShares() {
        Due.sentence("FAIR: noon goes round n (1 .. 9) turns, each turn to the HOUSE that has had it least so far for its WEIGHT");
        NoonOnABarrow x = houses(8);
        for (int n = 1; n <= 8; n++) {
            Due.is("fair(" + n + ") of eight alike", x.fair(n), n - 1);
        }
        Due.is("the 9th is the first's again", x.fair(9), 0);
        Due.is("fair(0)", x.fair(0), -1);
        Due.is("fair(10)", x.fair(10), -1);
        Due.is("fair(-1)", x.fair(-1), -1);
        Due.sentence("FAIR: to whom the n-th goes. NONE for others, and without HOUSES.");
        Due.is("without houses", new NoonOnABarrow().fair(1), -1);
        Due.is("without houses", new NoonOnABarrow().fair(9), -1);
        NoonOnABarrow one = houses(1);
        Due.is("the only one", one.fair(1), 0);
        Due.is("the only one", one.fair(9), 0);
        Due.sentence("had by WEIGHT compared as fractions, of like ones the greater WEIGHT, then the lowest");
        x.weight(7, 9);
        int[] nine = {7, 0, 1, 2, 3, 4, 5, 6, 7};
        for (int n = 1; n <= 9; n++) {
            Due.is("fair(" + n + ") with 9 for the last", x.fair(n), nine[n - 1]);
        }
        NoonOnABarrow two = houses(2);
        two.weight(0, 4);
        two.weight(1, 8);
        int[] half = {1, 0, 1, 1, 0, 1, 1, 0, 1};
        for (int n = 1; n <= 9; n++) {
            Due.is("fair(" + n + ") of 4 and 8", two.fair(n), half[n - 1]);
        }
        two.weight(0, 8);
        two.weight(1, 9);
        int[] close = {1, 0, 1, 0, 1, 0, 1, 0, 1};
        for (int n = 1; n <= 9; n++) {
            Due.is("fair(" + n + ") of 8 and 9", two.fair(n), close[n - 1]);
        }
        two.weight(0, 1);
        int[] far = {1, 0, 1, 1, 1, 1, 1, 1, 1};
        for (int n = 1; n <= 9; n++) {
            Due.is("fair(" + n + ") of 1 and 9", two.fair(n), far[n - 1]);
        }
        NoonOnABarrow three = houses(3);
        three.weight(0, 3);
        three.weight(1, 2);
        three.weight(2, 3);
        int[] thirds = {0, 2, 1, 0, 2, 1, 0, 2, 0};
        for (int n = 1; n <= 9; n++) {
            Due.is("fair(" + n + ") of 3, 2, 3", three.fair(n), thirds[n - 1]);
        }
    }

    private static void lostInFog() {
        Due.sentence("LOST in fog: HOUSES (bits) where noon may be, by warm of all FELT.");
        for (int n = 0; n <= 8; n++) {
            Due.is("nothing is felt of " + n, houses(n).lost(), (1 << n) - 1);
        }
        NoonOnABarrow x = line(8, 1);
        x.feel(7, 30);
        Due.is("at the last", x.lost(), 128);
        x.feel(0, 0);
        Due.is("0 is as cold as can be", x.lost(), 128);
        x.feel(0, 1);
        Due.is("nowhere", x.lost(), 0);
        x.feel(-1, 0);
        for (int i = 0; i < 7; i++) {
            x.feel(0, 5);
        }
        Due.is("5 off", x.lost(), 32);
        Due.is("an 8th", x.feel(5, 29), 8);
        Due.is("the 8th counts", x.lost(), 0);
        NoonOnABarrow law = Due.ruled("warm noon*20;");
        for (int i = 0; i < 8; i++) {
            law.house(0);
        }
        law.feel(3, 99);
        Due.is("99 at most: 5, 6, 7", law.lost(), 224);
        law.feel(-1, 0);
        law.feel(3, 0);
        Due.is("0", law.lost(), 1);
        law.feel(-1, 0);
        law.feel(3, 98);
        Due.is("nowhere", law.lost(), 0);
    }

    private static void nextYard() {
        Due.sentence("NEXT YARD: the HOUSE at which there are most unlike answers by all of these; of like ones the lowest; none (none may be).");
        Due.is("without houses", new NoonOnABarrow().yard(), -1);
        Due.is("the only one", houses(1).yard(), 0);
        Due.is("all alike: the lowest", houses(8).yard(), 0);
        NoonOnABarrow x = Due.ruled("warm if here=7 then noon else if here=6 and noon<7 then noon else 1 end end;");
        for (int i = 0; i < 8; i++) {
            x.house(0);
        }
        Due.is("eight answers at 7, seven at 6", x.yard(), 7);
        x.feel(7, 3);
        Due.is("one place: one answer at each", x.yard(), 0);
        x.feel(7, 4);
        Due.is("none may be", x.yard(), -1);
        x.feel(-1, 0);
        x.feel(6, 1);
        Due.is("1 or 7", x.lost(), 130);
        Due.is("7 tells them apart", x.yard(), 7);
        NoonOnABarrow seven = Due.ruled("warm if here=7 then noon else if here=6 then noon-noon/7*6 else 9 end end;");
        for (int i = 0; i < 8; i++) {
            seven.house(0);
        }
        Due.is("eight at 7, seven at 6, whose last is a like one", seven.yard(), 7);
        NoonOnABarrow like = Due.ruled("warm if here<2 then 5 else noon/2 end;");
        for (int i = 0; i < 8; i++) {
            like.house(0);
        }
        Due.is("four at 2 and behind it", like.yard(), 2);
        like.feel(4, 0);
        Due.is("0 or 1", like.lost(), 3);
        Due.is("no yard tells them apart", like.yard(), 0);
    }

    private static void thieves() {
        Due.sentence("THIEVES are at the HOUSE of the HOUR farthest from 12 now; of like ones the lowest.");
        Due.is("without houses", new NoonOnABarrow().thieves(), -1);
        Due.is("the only one", houses(1).thieves(), 0);
        Due.is("23 each", houses(8).thieves(), 1);
        NoonOnABarrow x = line(8, 1);
        Due.is("the last", x.thieves(), 7);
        x.lane(6, 7, 0);
        Due.is("apart", x.thieves(), 7);
        x.lane(0, 7, 1);
        Due.is("then 6", x.thieves(), 6);
        x.lane(0, 3, 2);
        Due.is("5 off, then", x.thieves(), 6);
        NoonOnABarrow ends = houses(3);
        ends.lane(0, 1, 9);
        ends.lane(1, 2, 9);
        ends.pusher(9);
        ends.push(1, 0);
        ends.minute(3);
        Due.is("3 and 21: like ones", ends.thieves(), 0);
        ends.lane(0, 1, 8);
        Due.is("4 and 21", ends.thieves(), 2);
        ends.lane(0, 1, 0);
        ends.lane(1, 2, 0);
        Due.is("0 is farther than 23", ends.thieves(), 0);
    }

    private static void watches() {
        Due.sentence("A WATCH of n watchers (1 .. 3): the set of HOUSES by which most is watched: a HOUSE is watched, if it is no farther than d (0 .. 9) from one of them: HOUSES together; of like ones the lowest set (bits).");
        NoonOnABarrow x = houses(8);
        for (int n = 1; n <= 3; n++) {
            Due.is(n + " of eight apart", x.watch(n, 9), (1 << n) - 1);
            Due.is(n + " of eight apart", x.watch(n, 0), (1 << n) - 1);
        }
        x.lane(6, 7, 9);
        Due.is("9 is near enough", x.watch(1, 9), 64);
        Due.is("8 isn't", x.watch(1, 8), 1);
        Due.is("with another one", x.watch(2, 9), 65);
        x.lane(5, 7, 9);
        Due.is("7 sees three", x.watch(1, 9), 128);
        Due.is("and another one", x.watch(2, 9), 129);
        Due.is("and two", x.watch(3, 9), 131);
        x.lane(4, 5, 1);
        Due.is("5 sees three as well, 10 is too far for 7", x.watch(1, 9), 32);
        NoonOnABarrow row = line(8, 1);
        Due.is("three of eight", row.watch(1, 1), 2);
        Due.is("six of eight", row.watch(2, 1), 18);
        Due.is("0, 3 and 6 see all eight", row.watch(3, 1), 73);
        Due.is("0 and 5 see all eight", row.watch(2, 2), 33);
        Due.is("one sees seven", row.watch(1, 3), 8);
        Due.is("one sees all", row.watch(1, 4), 8);
        Due.is("0 is itself", row.watch(3, 0), 7);
        Due.sentence("A WATCH (bits). NONE for others (more watchers than HOUSES, too).");
        Due.is("none", row.watch(0, 1), -1);
        Due.is("four", row.watch(4, 1), -1);
        Due.is("d -1", row.watch(1, -1), -1);
        Due.is("d 10", row.watch(1, 10), -1);
        for (int n = 0; n <= 3; n++) {
            NoonOnABarrow few = houses(n);
            for (int watchers = 1; watchers <= 3; watchers++) {
                Due.is(watchers + " of " + n, few.watch(watchers, 0), watchers > n ? -1 : (1 << watchers) - 1);
            }
        }
    }

    public static void main(String[] args) {
        fitting();
        routeOfNone();
        theLongestRoute();
        asManyAsAreSo();
        theFewestTheLowest();
        leastPushing();
        leastOverTheLast();
        votes();
        agendaOneToEight();
        fairShares();
        lostInFog();
        nextYard();
        thieves();
        watches();
        Due.close();
    }
}
