/** Promises 28 to 31, 35, 36: votes, agendas, fair shares, thieves, the watch. */
public final class CounselTest {
    private static NoonOnABarrow line(int houses, int length) {
        NoonOnABarrow x = new NoonOnABarrow();
        for (int i = 0; i < houses; i++) {
            x.house(0);
            if (i > 0) {
                x.lane(i - 1, i, length);
            }
        }
        return x;
    }

    private static void winner() {
        Due.is("without houses", new NoonOnABarrow().winner(), -1);
        Due.is("the only one", line(1, 1).winner(), 0);
        NoonOnABarrow two = line(2, 1);
        Due.is("each for itself", two.winner(), -1);
        Due.is("of like ones the first stays", two.agenda(10, 2), 1);
        Due.is("of like ones the first stays", two.agenda(1, 2), 0);
        Due.is("the middle of five", line(5, 3).winner(), 2);
        NoonOnABarrow apart = new NoonOnABarrow();
        for (int i = 0; i < 4; i++) {
            apart.house(0);
        }
        Due.is("of like ones the lowest: 0 has three", apart.winner(), 0);
    }

    /** On this ring 0 beats 1 and 1 beats 2 by four to two, 2 and 0 have three each, and so do 3 and 0, 4 and 1, 5 and 2. */
    private static void aRing() {
        NoonOnABarrow x = new NoonOnABarrow();
        for (int i = 0; i < 6; i++) {
            x.house(0);
        }
        x.lane(3, 0, 1);
        x.lane(3, 1, 2);
        x.lane(4, 1, 1);
        x.lane(4, 2, 2);
        x.lane(5, 2, 1);
        x.lane(5, 0, 2);
        Due.is("far", x.two(3, 2, 0), 4);
        Due.is("1 stays, 0 beats it", x.agenda(120, 3), 0);
        Due.is("2 stays, 1 beats it", x.agenda(201, 3), 1);
        Due.is("0 stays", x.agenda(12, 3), 0);
        Due.is("0 stays", x.agenda(21, 3), 0);
        Due.is("2 stays", x.agenda(20, 2), 2);
        Due.is("none beats all", x.winner(), -1);
    }

    private static void agenda() {
        NoonOnABarrow x = line(5, 2);
        Due.is("agenda(4321, 4)", x.agenda(4321, 4), 2);
        Due.is("agenda(43, 2)", x.agenda(43, 2), 3);
        Due.is("agenda(40, 2)", x.agenda(40, 2), 0);
        Due.is("agenda(4, 2) is 04", x.agenda(4, 2), 0);
        Due.is("agenda(4, 1)", x.agenda(4, 1), 4);
        Due.is("agenda(1234, 5) is 01234", x.agenda(1234, 5), 2);
        Due.is("agenda(4, 3) has 0 twice", x.agenda(4, 3), -1);
        Due.is("agenda(5, 1) isn't told", x.agenda(5, 1), -1);
        Due.is("agenda(44, 2)", x.agenda(44, 2), -1);
        Due.is("agenda(123, 2) is too long", x.agenda(123, 2), -1);
        Due.is("agenda(0, 0)", x.agenda(0, 0), -1);
        Due.is("agenda(0, -1)", x.agenda(0, -1), -1);
        Due.is("agenda(0, 9)", x.agenda(0, 9), -1);
        Due.is("agenda(-4, 1)", x.agenda(-4, 1), -1);
        Due.is("agenda of the least int", x.agenda(Integer.MIN_VALUE, 8), -1);
        Due.is("without houses", new NoonOnABarrow().agenda(0, 1), -1);
        NoonOnABarrow eight = line(8, 1);
        Due.so("a row of eight", eight.agenda(76543210, 8) >= 3 && eight.agenda(76543210, 8) <= 4, true);
        Due.is("a row of eight with 8", eight.agenda(86543210, 8), -1);
    }

    private static void fair() {
        NoonOnABarrow x = line(3, 1);
        Due.so("weight(0, 0)", x.weight(0, 0), false);
        Due.so("weight(0, 10)", x.weight(0, 10), false);
        Due.so("weight(3, 1)", x.weight(3, 1), false);
        Due.so("weight(-1, 1)", x.weight(-1, 1), false);
        Due.is("fair(0)", x.fair(0), -1);
        Due.is("fair(10)", x.fair(10), -1);
        Due.is("without houses", new NoonOnABarrow().fair(1), -1);
        int[] alike = {0, 1, 2, 0, 1, 2, 0, 1, 2};
        for (int n = 1; n <= 9; n++) {
            Due.is("fair(" + n + ") of like ones", x.fair(n), alike[n - 1]);
        }
        Due.so("weight(1, 2)", x.weight(1, 2), true);
        int[] byOne = {1, 0, 2, 1, 1, 0, 2, 1, 1};
        for (int n = 1; n <= 9; n++) {
            Due.is("fair(" + n + ") of 1 2 1", x.fair(n), byOne[n - 1]);
        }
        x.weight(0, 9);
        x.weight(1, 1);
        x.weight(2, 4);
        int[] nine = {0, 2, 1, 0, 0, 2, 0, 0, 2};
        for (int n = 1; n <= 9; n++) {
            Due.is("fair(" + n + ") of 9 1 4", x.fair(n), nine[n - 1]);
        }
    }

    private static void thieves() {
        Due.is("without houses", new NoonOnABarrow().thieves(), -1);
        Due.is("the only one", line(1, 1).thieves(), 0);
        NoonOnABarrow x = line(3, 9);
        Due.is("23 is 11 off", x.thieves(), 2);
        x.pusher(9);
        x.push(1, 0);
        x.minute(3);
        Due.is("of like ones the lowest", x.thieves(), 0);
        x.house(0);
        Due.is("23, no way", x.thieves(), 3);
        x.push(2, 0);
        Due.is("on its way, from 1", x.thieves(), 3);
        x.minute(3);
        Due.is("0 is 12 off", x.thieves(), 0);
    }

    private static void watch() {
        NoonOnABarrow x = line(6, 2);
        Due.is("watch(0, 1)", x.watch(0, 1), -1);
        Due.is("watch(4, 1)", x.watch(4, 1), -1);
        Due.is("watch(1, -1)", x.watch(1, -1), -1);
        Due.is("watch(1, 10)", x.watch(1, 10), -1);
        Due.is("none but itself", x.watch(1, 0), 1);
        Due.is("two of themselves", x.watch(2, 1), 3);
        Due.is("one sees three", x.watch(1, 2), 2);
        Due.is("1 and 4 see all", x.watch(2, 2), 18);
        Due.is("three, the lowest set that sees all", x.watch(3, 2), 19);
        Due.is("one sees five", x.watch(1, 4), 4);
        Due.is("9 of 10", x.watch(1, 9), 2);
        Due.is("more watchers than houses", line(2, 1).watch(3, 1), -1);
        Due.is("as many as houses", line(2, 1).watch(2, 1), 3);
        Due.is("without houses", new NoonOnABarrow().watch(1, 1), -1);
    }

    public static void main(String[] args) {
        winner();
        aRing();
        agenda();
        fair();
        thieves();
        watch();
        Due.close();
    }
}
