/** Promises 37 to 39: the image, going back, and what all is about. */
public final class ImageTest {
    private static NoonOnABarrow imaged() {
        NoonOnABarrow x = Due.ruled("earns -3;hard 7;");
        x.house(1);
        x.house(2);
        x.lane(0, 1, 2);
        x.pusher(3);
        x.weight(1, 5);
        x.want(0, 12);
        x.feel(1, 20);
        x.years(3, 5);
        x.minute(3);
        return x;
    }

    private static String all(NoonOnABarrow x) {
        StringBuilder b = new StringBuilder();
        for (int i = 0; i < 9; i++) {
            b.append(x.about(i)).append(' ');
        }
        for (int i = 0; i < 6; i++) {
            b.append(x.barrow(i)).append(' ');
        }
        for (int i = -1; i < 6; i++) {
            b.append(x.book(i, i & 1)).append(' ');
        }
        for (int h = 0; h < 3; h++) {
            for (int what = 0; what < 5; what++) {
                b.append(x.of(h, what)).append(' ');
            }
            b.append(x.two(0, h, 1)).append(' ').append(x.two(0, h, 0)).append(' ');
        }
        b.append(x.hard(0, 1, 0)).append(' ').append(x.fitting()).append(' ').append(x.lost()).append(' ');
        return b.append(x.fair(2)).append(' ').append(x.route(-1)).toString();
    }

    private static void goingBack() {
        NoonOnABarrow x = imaged();
        String then = all(x);
        int minute = x.about(2);
        Due.is("image()", x.image(), minute);
        for (int time = 0; time < 2; time++) {
            x.house(9);
            x.lane(0, 1, 9);
            x.lane(0, 2, 1);
            x.pusher(9);
            x.weight(0, 9);
            x.weight(2, 9);
            x.want(1, 3);
            x.feel(-1, 0);
            x.minute(40);
            x.years(8, 30);
            Due.is("another text", Due.text(x, "earns 9;"), 1);
            x.by(1);
            x.minute(4);
            Due.so("all is otherwise", all(x).equals(then), false);
            Due.is("back()", x.back(), minute);
            Due.so("all is as then", all(x).equals(then), true);
            Due.is("texts told behind it are gone", x.played(1), -2);
            Due.so("and can't rule", x.by(1), false);
        }
        int steps = x.about(6);
        for (int i = steps - 1; i >= 0; i--) {
            Due.is("steps as well", x.undo(), i);
        }
        Due.is("taken back to the start", x.about(2), 0);
        Due.is("it stays", x.back(), minute);
        Due.so("all is as then", all(x).equals(then), true);
        x.house(0);
        Due.is("a new one has no lane", x.two(0, 2, 1), 0);
        Due.is("a new one has no purse", x.of(2, 1), 0);
        Due.is("a new one's weight is 1", x.fair(1), 1);
        Due.is("image() anew", x.image(), minute);
        x.minute(1);
        Due.is("back() to the new one", x.back(), minute);
        Due.is("about(0)", x.about(0), 3);
    }

    private static void tapeAndFaultStay() {
        NoonOnABarrow x = new NoonOnABarrow();
        Due.feed(x, "hou");
        Due.is("image()", x.image(), 0);
        Due.feed(x, "se 3;");
        Due.is("back()", x.back(), 0);
        Due.is("the tape stays", x.about(9), 8);
        Due.is("text", x.text(), 0);
        Due.is("text of a fault", Due.text(x, "tip tip"), -1);
        x.back();
        Due.is("the fault stays", x.fault(0), 1);
        Due.is("the place stays", x.fault(1), 4);
        Due.is("the text is gone", x.about(4), 0);
    }

    private static void textsTakeTheSamePlaces() {
        NoonOnABarrow x = new NoonOnABarrow();
        Due.is("text", Due.text(x, "house 1;"), 0);
        x.by(0);
        x.image();
        for (int i = 1; i < 4; i++) {
            Due.is("text", Due.text(x, "house 2;"), i);
        }
        Due.is("four", Due.text(x, "house 2;"), -1);
        x.back();
        Due.is("the tape stays", x.about(9), 8);
        Due.is("text", x.text(), 1);
        Due.is("the ruling one", x.about(5), 0);
        Due.is("played(0)", x.played(0), -1);
        Due.is("as it was", x.of(0, 0), 1);
        x.by(1);
        x.back();
        Due.is("the ruling one again", x.about(5), 0);
    }

    private static void thirtyStepsInARingAreImaged() {
        NoonOnABarrow x = new NoonOnABarrow();
        x.house(0);
        x.minute(47);
        x.image();
        x.minute(11);
        x.back();
        for (int i = 29; i >= 0; i--) {
            Due.is("undo", x.undo(), i);
            Due.is("minute", x.about(2), 17 + i);
        }
        Due.is("undo of none", x.undo(), -1);
        Due.is("back", x.back(), 47);
        Due.is("steps", x.about(6), 30);
    }

    private static void pairsAreImaged() {
        NoonOnABarrow x = new NoonOnABarrow();
        x.house(0);
        x.house(0);
        x.house(0);
        x.lane(0, 1, 1);
        x.want(1, 12);
        x.want(0, 11);
        x.feel(0, 25);
        x.image();
        x.want(-1, 0);
        x.want(2, 12);
        x.want(2, 12);
        x.feel(-1, 0);
        x.feel(2, 30);
        Due.is("at 2", x.fitting(), 4);
        Due.is("at 2", x.lost(), 4);
        x.back();
        Due.is("at 1 again", x.fitting(), 2);
        Due.is("at 1 again", x.lost(), 2);
        Due.is("wanted", x.about(7), 2);
        Due.is("felt", x.about(8), 1);
    }

    private static void theNewOneIsImaged() {
        NoonOnABarrow x = imaged();
        Due.is("back() without an image told", x.back(), 0);
        int[] due = {0, 0, 0, 89, 0, -1, 0, 0, 0, 0};
        for (int what = 0; what < 10; what++) {
            Due.is("about(" + what + ")", x.about(what), due[what]);
        }
        Due.is("wheels", x.barrow(4), 99);
        Due.is("book", x.book(-1, 0), 0);
        x.house(4);
        x.house(5);
        Due.is("hill", x.of(0, 0), 4);
        Due.is("purse", x.of(0, 1), 0);
        Due.is("no lane", x.two(0, 1, 0), 99);
        Due.is("weights are 1", x.fair(1), 0);
        Due.is("no law", x.of(0, 4), 12);
    }

    private static void about() {
        NoonOnABarrow x = imaged();
        int[] due = {2, 1, x.about(2), x.about(3), 1, 0, 4, 1, 1, 0};
        for (int what = 0; what < 10; what++) {
            Due.is("about(" + what + ")", x.about(what), due[what]);
        }
        Due.is("about(-1)", x.about(-1), -2);
        Due.is("about(10)", x.about(10), -2);
    }

    public static void main(String[] args) {
        goingBack();
        tapeAndFaultStay();
        textsTakeTheSamePlaces();
        thirtyStepsInARingAreImaged();
        pairsAreImaged();
        theNewOneIsImaged();
        about();
        Due.close();
    }
}
