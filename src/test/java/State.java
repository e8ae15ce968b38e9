/** Ways that an object can have come. Whoever goes one of them twice has twins. */
enum State {
    /** As it was made. */
    NEW,
    /** Two HOUSES and nothing beside them. */
    BARE,
    /** A parish with laws, debts and STEPS, in which THE BARROW lies. */
    LYING,
    /** The same, THE BARROW being on its way. */
    GOING,
    /** As many HOUSES, PUSHERS, TEXTS, bytes, WANTED, FELT, STEPS and debts as can be; THE BARROW lies. */
    FULL,
    /** MINUTE 9970, a tape of 281 bytes. */
    EVENING,
    /** MINUTE 9999, THE BARROW being on its way. */
    LATE;

    private static final String LAWS = "hard lane*strength+far here to there+hill;wears if left>3 then 9 else 2 end;"
            + "earns 9-pale*3-here;warm noon*7+here*3+far here to noon;";

    NoonOnABarrow come() {
        NoonOnABarrow x = new NoonOnABarrow();
        switch (this) {
            case NEW:
                break;
            case BARE:
                x.house(0);
                x.house(9);
                break;
            case LYING:
                settle(x);
                x.tip();
                break;
            case GOING:
                settle(x);
                x.tip();
                x.push(1, 0);
                x.minute(1);
                break;
            case FULL:
                fill(x);
                break;
            case EVENING:
                grow(x, 9970);
                Due.feed(x, " ".repeat(280) + ";");
                break;
            default:
                grow(x, 9998);
                x.push(1, 0);
                x.minute(1);
                Due.feed(x, "tip;");
                break;
        }
        return x;
    }

    private static void settle(NoonOnABarrow x) {
        Due.text(x, LAWS);
        x.by(0);
        x.house(1);
        x.house(4);
        x.house(0);
        x.house(9);
        x.lane(0, 1, 3);
        x.lane(1, 2, 1);
        x.lane(0, 2, 9);
        x.pusher(2);
        x.pusher(5);
        x.weight(1, 4);
        x.weight(3, 2);
        x.want(1, 12);
        x.want(0, 9);
        x.feel(2, 7);
        x.feel(0, 0);
        x.minute(7);
        x.push(1, 1);
        x.minute(1);
        x.image();
        x.minute(2);
        Due.text(x, "house 3;minute 2;push 1 by 0;mend;");
        x.years(77, 9);
        x.mend();
        x.push(2, 0);
        x.push(0, 0);
        x.minute(1);
        x.push(1, 0);
        Due.text(x, "hard 1;hard");
        Due.feed(x, "hard 7;warm noon;tip");
    }

    private static void fill(NoonOnABarrow x) {
        Due.text(x, "earns if purse<0 then 20 else -9-here end;warm noon+here;hard lane+here;");
        x.by(0);
        for (int i = 0; i < 8; i++) {
            x.house(9 - i);
        }
        for (int i = 0; i < 8; i++) {
            x.lane(i, (i + 1) % 8, 1 + i);
        }
        for (int i = 0; i < 4; i++) {
            x.pusher(9 - 2 * i);
        }
        x.image();
        for (int i = 0; i < 8; i++) {
            x.weight(i, 9 - i);
            x.want(i, i < 4 ? 12 : 20);
            x.feel(i, i + 3);
        }
        x.minute(11);
        x.push(1, 0);
        x.tip();
        x.minute(25);
        Due.text(x, "warm 1;tip;house 1;");
        Due.text(x, "minute 60;");
        Due.text(x, "");
        Due.feed(x, "hard 1;" + " ".repeat(280) + "\nmend%house 3");
    }

    private static void grow(NoonOnABarrow x, int minute) {
        Due.text(x, "minute 60;".repeat(24));
        Due.text(x, "wears left;earns if purse<0 then 50 else 30-minute/100 end;");
        x.by(1);
        x.house(5);
        x.house(2);
        x.house(3);
        x.lane(0, 1, 9);
        x.lane(1, 2, 2);
        x.pusher(1);
        for (int i = 0; i < 6; i++) {
            x.played(0);
        }
        x.image();
        for (int passed = 6 * 24 * 60; passed < minute; passed += 60) {
            x.minute(Math.min(60, minute - passed));
        }
        x.years(5, 4);
        while (x.about(2) != minute) {
            x.undo();
        }
        x.push(1, 0);
        x.tip();
    }
}
