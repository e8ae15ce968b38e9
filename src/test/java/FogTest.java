/** Promises 32 to 34: what was felt, where noon may be, which yard to feel next. */
public final class FogTest {
    private static NoonOnABarrow line() {
        NoonOnABarrow x = new NoonOnABarrow();
        for (int i = 0; i < 4; i++) {
            x.house(0);
            if (i > 0) {
                x.lane(i - 1, i, 1);
            }
        }
        return x;
    }

    private static void felt() {
        NoonOnABarrow x = line();
        Due.is("feel(4, 1)", x.feel(4, 1), -2);
        Due.is("feel(-2, 1)", x.feel(-2, 1), -2);
        Due.is("feel(0, -1)", x.feel(0, -1), -2);
        Due.is("feel(0, 100)", x.feel(0, 100), -2);
        for (int i = 1; i <= 8; i++) {
            Due.is("feel", x.feel(0, i == 1 ? 99 : 0), i);
        }
        Due.is("a 9th", x.feel(0, 1), -2);
        Due.is("about(8)", x.about(8), 8);
        Due.is("none any more", x.feel(-1, 1000), 0);
        Due.is("about(8)", x.about(8), 0);
    }

    private static void lostAndYard() {
        NoonOnABarrow x = line();
        Due.is("anywhere", x.lost(), 15);
        Due.is("0 tells all apart", x.yard(), 0);
        x.feel(1, 25);
        Due.is("next to 1", x.lost(), 5);
        Due.is("0 tells them apart", x.yard(), 0);
        x.feel(1, 25);
        Due.is("the same twice", x.lost(), 5);
        x.feel(2, 30);
        Due.is("at 2", x.lost(), 4);
        Due.is("of like ones the lowest", x.yard(), 0);
        x.feel(2, 29);
        Due.is("nowhere", x.lost(), 0);
        Due.is("none may be", x.yard(), -1);
        NoonOnABarrow none = new NoonOnABarrow();
        Due.is("without houses", none.lost(), 0);
        Due.is("without houses", none.yard(), -1);
    }

    private static void yardIsTheOneThatTellsMost() {
        NoonOnABarrow x = new NoonOnABarrow();
        for (int i = 0; i < 4; i++) {
            x.house(0);
        }
        x.lane(0, 1, 2);
        x.lane(0, 2, 2);
        x.lane(1, 2, 1);
        x.lane(1, 3, 5);
        Due.is("0 feels 1 and 2 alike", x.two(0, 1, 2), x.two(0, 2, 2));
        Due.is("1 tells four apart", x.yard(), 1);
        x.feel(0, 20);
        Due.is("1 or 2", x.lost(), 6);
        Due.is("1 is the lowest that tells", x.yard(), 1);
    }

    private static void everyPlaceCounts() {
        NoonOnABarrow x = Due.ruled("warm if here=0 then noon/2 else if here=1 then if noon<2 then noon else 2 end else if noon=7 then 1 else 0 end end end;");
        for (int i = 0; i < 8; i++) {
            x.house(0);
        }
        Due.is("0 gives four answers, 1 three, the others two", x.yard(), 0);
        x.feel(7, 0);
        Due.is("all but 7", x.lost(), 127);
        x.feel(1, 2);
        Due.is("2 to 6", x.lost(), 124);
        Due.is("0 tells three", x.yard(), 0);
        NoonOnABarrow y = Due.ruled("warm if here=0 then if noon=1 then 5 else 6 end else if noon=0 then 1 else noon end end;");
        for (int i = 0; i < 3; i++) {
            y.house(0);
        }
        Due.is("two answers at each", y.yard(), 0);
        NoonOnABarrow z = Due.ruled("warm if here=0 then 5 else if noon=0 then 1 else 2 end end;");
        for (int i = 0; i < 3; i++) {
            z.house(0);
        }
        Due.is("noon at 0 is an answer of its own", z.yard(), 1);
    }

    private static void byTheLaw() {
        NoonOnABarrow x = Due.ruled("warm if here=2 then noon*3+minute else 7 end;");
        for (int i = 0; i < 4; i++) {
            x.house(0);
        }
        Due.is("only 2 tells", x.yard(), 2);
        x.feel(1, 7);
        Due.is("anywhere", x.lost(), 15);
        x.feel(2, 9);
        Due.is("at 3", x.lost(), 8);
        x.minute(3);
        Due.is("by the minute", x.lost(), 4);
        Due.is("one is left", x.yard(), 0);
        x.minute(1);
        Due.is("nowhere", x.lost(), 0);
        Due.is("none", x.yard(), -1);
    }

    public static void main(String[] args) {
        felt();
        lostAndYard();
        yardIsTheOneThatTellsMost();
        everyPlaceCounts();
        byTheLaw();
        Due.close();
    }
}
