/** Promises 24 to 27: told hours, places that fit, routes, the least pushing. */
public final class WantedTest {
    /** 0 and 3 are joined by way of 1 and of 2, of like length; 4 stands apart. */
    private static NoonOnABarrow square() {
        NoonOnABarrow x = new NoonOnABarrow();
        for (int i = 0; i < 5; i++) {
            x.house(0);
        }
        x.lane(0, 1, 2);
        x.lane(0, 2, 2);
        x.lane(1, 3, 2);
        x.lane(2, 3, 2);
        x.pusher(9);
        return x;
    }

    private static void wanted() {
        NoonOnABarrow x = square();
        Due.is("want(5, 0)", x.want(5, 0), -2);
        Due.is("want(-2, 0)", x.want(-2, 0), -2);
        Due.is("want(0, -1)", x.want(0, -1), -2);
        Due.is("want(0, 24)", x.want(0, 24), -2);
        for (int i = 1; i <= 8; i++) {
            Due.is("want", x.want(0, i == 1 ? 23 : 0), i);
        }
        Due.is("a 9th", x.want(0, 0), -2);
        Due.is("about(7)", x.about(7), 8);
        Due.is("none any more", x.want(-1, 77), 0);
        Due.is("about(7)", x.about(7), 0);
        Due.is("want(0, 0)", x.want(0, 0), 1);
    }

    private static void fitting() {
        NoonOnABarrow x = square();
        Due.is("all fit", x.fitting(), 31);
        x.want(0, 10);
        Due.is("noon at 1 or 2", x.fitting(), 6);
        x.want(3, 14);
        Due.is("noon at 1 or 2", x.fitting(), 6);
        x.want(1, 12);
        Due.is("noon at 1", x.fitting(), 2);
        x.want(1, 11);
        Due.is("nowhere", x.fitting(), 0);
        x.want(-1, 0);
        x.want(4, 12);
        Due.is("noon at 4", x.fitting(), 16);
        Due.is("none without houses", new NoonOnABarrow().fitting(), 0);
    }

    private static void routes() {
        NoonOnABarrow x = square();
        Due.is("nothing wanted", x.route(-1), 0);
        Due.is("route(0)", x.route(0), -2);
        x.want(3, 12);
        Due.is("two lanes", x.route(-1), 2);
        Due.is("by the lowest", x.route(0), 1);
        Due.is("to 3", x.route(1), 3);
        Due.is("route(2)", x.route(2), -2);
        Due.is("route(-2)", x.route(-2), -2);
        x.want(0, 12);
        Due.is("and back", x.route(-1), 4);
        Due.is("by the lowest", x.route(2), 1);
        Due.is("to 0", x.route(3), 0);
        x.want(2, 12);
        Due.is("on to 2", x.route(-1), 5);
        Due.is("to 2", x.route(4), 2);
        x.want(-1, 0);
        x.want(0, 12);
        x.want(3, 16);
        Due.is("both are so at the first", x.route(-1), 0);
        x.want(0, 10);
        x.want(3, 14);
        Due.is("one lane, two done", x.route(-1), 1);
        Due.is("the lowest", x.route(0), 1);
        x.want(4, 12);
        Due.is("none leads there", x.route(-1), -2);
        Due.is("route(0)", x.route(0), -2);
        x.want(-1, 0);
        x.want(2, 12);
        x.push(1, 0);
        Due.is("from the one it left", x.route(-1), 1);
        x.minute(1);
        Due.is("from 1", x.route(-1), 2);
        Due.is("by 0", x.route(0), 0);
        x.lane(0, 1, 0);
        Due.is("by 3", x.route(0), 3);
        Due.is("without houses", new NoonOnABarrow().route(-1), -2);
    }

    private static void eightWanted() {
        NoonOnABarrow x = square();
        int[] noons = {0, 3, 0, 3, 2, 1, 2, 3};
        for (int noon : noons) {
            x.want(noon, 12);
        }
        int[] route = {1, 3, 1, 0, 1, 3, 2, 0, 1, 0, 2, 3};
        Due.is("lanes", x.route(-1), route.length);
        for (int i = 0; i < route.length; i++) {
            Due.is("route(" + i + ")", x.route(i), route[i]);
        }
    }

    private static void fewestLanesNotShortest() {
        NoonOnABarrow x = new NoonOnABarrow();
        for (int i = 0; i < 4; i++) {
            x.house(0);
        }
        x.lane(0, 1, 1);
        x.lane(1, 2, 1);
        x.lane(2, 3, 1);
        x.lane(0, 3, 9);
        x.want(3, 12);
        Due.is("one long lane", x.route(-1), 1);
        Due.is("to 3", x.route(0), 3);
    }

    private static void least() {
        NoonOnABarrow x = square();
        Due.is("how much", x.least(3, 0, -2), 12);
        Due.is("how many", x.least(3, 0, -1), 2);
        Due.is("the lowest of like ones", x.least(3, 0, 0), 1);
        Due.is("to 3", x.least(3, 0, 1), 3);
        Due.is("no more", x.least(3, 0, 2), -3);
        Due.is("least(3, 0, -3)", x.least(3, 0, -3), -3);
        Due.is("itself", x.least(0, 0, -2), 0);
        Due.is("no lanes", x.least(0, 0, -1), 0);
        Due.is("none behind the first", x.least(0, 0, 0), -3);
        Due.is("apart", x.least(4, 0, -2), -3);
        Due.is("least(5, 0, -2)", x.least(5, 0, -2), -3);
        Due.is("least(-1, 0, -2)", x.least(-1, 0, -2), -3);
        Due.is("least(3, 1, -2)", x.least(3, 1, -2), -3);
        Due.is("least(3, -1, -2)", x.least(3, -1, -2), -3);
        x.lane(1, 3, 3);
        Due.is("by 2", x.least(3, 0, 0), 2);
        x.push(1, 0);
        Due.is("on its way", x.least(3, 0, -2), -3);
    }

    private static void leastByTheLaw() {
        NoonOnABarrow x = Due.ruled("hard if here=0 and there=3 then strength*10 else 30-minute*10 end;");
        for (int i = 0; i < 4; i++) {
            x.house(0);
        }
        x.lane(0, 1, 1);
        x.lane(1, 3, 1);
        x.lane(0, 3, 9);
        x.pusher(9);
        x.pusher(6);
        Due.is("by 1, of like ones with more lanes", x.least(3, 1, -2), 60);
        Due.is("lanes", x.least(3, 1, -1), 2);
        Due.is("1 is lower than 3", x.least(3, 1, 0), 1);
        Due.is("the strong one is slow here", x.least(3, 0, -2), 60);
        x.minute(1);
        Due.is("as now", x.least(3, 1, -2), 40);
        x.lane(1, 3, 0);
        Due.is("the lane alone", x.least(3, 1, -1), 1);
        Due.is("how much", x.least(3, 0, -2), 90);
        Due.is("nothing changes", x.about(6), 1);
    }

    public static void main(String[] args) {
        wanted();
        fitting();
        routes();
        eightWanted();
        fewestLanesNotShortest();
        least();
        leastByTheLaw();
        Due.close();
    }
}
