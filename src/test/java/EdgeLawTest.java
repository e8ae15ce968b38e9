/** Each sentence on what laws say, and on TEXTS that are PLAYED, at its edges. */
public final class EdgeLawTest {
    /** What the SUM says, from -99 to 99 as earns. */
    private static void says(String sum, int due) {
        NoonOnABarrow x = Due.ruled("earns " + sum + ";");
        x.house(0);
        Due.is(sum, x.of(0, 4), due);
    }

    private static void aMillion() {
        Due.sentence("what is above 1000000 (below the same less) is that, at each step");
        says("1000*1000-9999*100-50", 50);
        says("1000*1000+1-9999*100-50", 50);
        says("1000*1000-1-9999*100-50", 49);
        says("1000*1000-1+1-9999*100-50", 50);
        says("1001*1000-9999*100-50", 50);
        says("9999*9999-9999*100-50", 50);
        says("9999*9999*9999*9999-9999*100-50", 50);
        says("-1000*1000+9999*100+50", -50);
        says("-1000*1000-1+9999*100+50", -50);
        says("-1000*1000+1+9999*100+50", -49);
        says("-1000*1000+1-1+9999*100+50", -50);
        says("-1001*1000+9999*100+50", -50);
        says("1001*-1000+9999*100+50", -50);
        says("-9999*9999*9999+9999*100+50", -50);
        says("9999*9999*-9999+9999*100+50", -50);
        says("-(9999*9999)+9999*100+50", -50);
        says("-(-9999*9999)-9999*100-50", 50);
        says("9999*9999/9999-100", 0);
        says("1000*1000+1000*1000-1000*1000", 0);
        says("(1000*1000+5)-(1000*1000-5)", 5);
        says("-1000*1000-1000*1000+1000*1000", 0);
        says("1000*1000*(1000*1000)/(1000*1000)", 1);
        says("-(1000*1000)*(1000*1000)/(1000*1000)", -1);
        says("if 1000*1000+1=1000*1000 then 1 else 0 end", 1);
        says("if 1000*1000-1=1000*1000 then 1 else 0 end", 0);
        says("if -1000*1000-1=-1000*1000 then 1 else 0 end", 1);
        says("if -1000*1000+1=-1000*1000 then 1 else 0 end", 0);
    }

    private static void cutTowardsZero() {
        Due.sentence("From the left; / cuts towards 0, by 0 it is 0");
        says("7/2", 3);
        says("-7/2", -3);
        says("7/-2", -3);
        says("-7/-2", 3);
        says("1/2", 0);
        says("-1/2", 0);
        says("6/3", 2);
        says("-6/3", -2);
        says("5/0", 0);
        says("-5/0", 0);
        says("0/0", 0);
        says("0/5", 0);
        says("7+5/0", 7);
        says("7*(5/0)+2", 2);
        says("5/(3-3)*9+4", 4);
        says("1000*1000/-1+9999*100+50", -50);
        says("9-4-3", 2);
        says("9-4+3", 8);
        says("24/4/3", 2);
        says("24/4*3", 18);
        says("2*7/4", 3);
        says("7/4*2", 2);
        says("2+3*4", 14);
        says("2*3+4", 10);
        says("-2+3", 1);
        says("--5", 5);
        says("9--5", 14);
        says("-(2-7)", 5);
    }

    private static void bothSides() {
        Due.sentence("or and and look at both sides always, of if just the SUM that is chosen is asked.");
        says("if 1=1 or 1/0=1 then 5 else 6 end", 5);
        says("if 1=2 and 1/0=1 then 5 else 6 end", 6);
        says("if 1=1 then 5 else 1/0 end", 5);
        says("if 1=2 then 9999*9999 else 6 end", 6);
        says("if 1=1 or 1=2 and 1=2 then 5 else 6 end", 5);
        says("if 1=2 and 1=2 or 1=1 then 5 else 6 end", 5);
        says("if 1=2 or 1=2 or 1=1 then 5 else 6 end", 5);
        says("if 1=1 and 1=1 and 1=2 then 5 else 6 end", 6);
        says("if not 1=2 then 5 else 6 end", 5);
        says("if not not 1=2 then 5 else 6 end", 6);
        says("if not 1=2 and not 1=2 then 5 else 6 end", 5);
        says("if not 1=1 or not 1=2 then 5 else 6 end", 5);
    }

    private static void farOfNumbers() {
        Due.sentence("far ONE to ONE (FAR of the HOUSES of these numbers; 99, if one of both isn't told)");
        String[][] due = {{"0", "0", "0"}, {"0", "7", "28"}, {"7", "0", "28"}, {"7", "7", "0"}, {"0", "6", "99"}, {"6", "6", "0"},
            {"0", "8", "99"}, {"8", "0", "99"}, {"8", "8", "99"}, {"-1", "0", "99"}, {"0", "-1", "99"}, {"-1", "-1", "99"},
            {"9999", "0", "99"}, {"0", "(9999*9999)", "99"}, {"(-9999*9999)", "7", "99"}, {"(3-3)", "(3+4)", "28"}};
        for (String[] d : due) {
            NoonOnABarrow x = Due.ruled("warm far " + d[0] + " to " + d[1] + ";");
            for (int i = 0; i < 8; i++) {
                x.house(0);
            }
            for (int i = 0; i < 5; i++) {
                x.lane(i, i + 1, 5);
            }
            x.lane(5, 7, 3);
            Due.is("far " + d[0] + " to " + d[1], x.two(0, 0, 2), Integer.parseInt(d[2]));
        }
        NoonOnABarrow x = Due.ruled("warm far 0 to 1;earns far 1 to 1-90;");
        x.house(0);
        Due.is("1 isn't told", x.two(0, 0, 2), 99);
        Due.is("nor is it far from itself", x.of(0, 4), 9);
        x.house(0);
        Due.is("told, no way", x.two(0, 0, 2), 99);
        Due.is("told, itself", x.of(0, 4), -90);
        x.lane(0, 1, 9);
        Due.is("a lane", x.two(0, 0, 2), 9);
    }

    private static void boundsOfLaws() {
        int[] said = {-9999, -101, -100, -99, -98, -1, 0, 1, 2, 98, 99, 100, 101, 998, 999, 1000, 1001, 9999};
        for (int s : said) {
            NoonOnABarrow x = Due.ruled("hard " + s + ";wears " + s + ";earns " + s + ";warm " + s + ";");
            x.house(0);
            x.house(0);
            x.lane(0, 1, 1);
            x.pusher(1);
            Due.sentence("hard: 1 at least, 999 at most");
            Due.is("hard " + s, x.hard(0, 1, 0), s < 1 ? 1 : s > 999 ? 999 : s);
            Due.sentence("earns: -99 at least, 99 at most");
            Due.is("earns " + s, x.of(1, 4), s < -99 ? -99 : s > 99 ? 99 : s);
            Due.sentence("warm: 0 at least, 99 at most");
            Due.is("warm " + s, x.two(0, 1, 2), s < 0 ? 0 : s > 99 ? 99 : s);
            x.push(1, 0);
            Due.sentence("wears: 0 at least, 99 at most");
            int wears = s < 0 ? 0 : s > 99 ? 99 : s;
            Due.is("wears " + s, x.barrow(5), wears);
            x.minute(1);
            Due.is("wheels", x.barrow(4), 99 - wears);
            Due.is("purse", x.of(0, 1), s < -99 ? -99 : s > 99 ? 99 : s);
        }
    }

    private static void withoutALaw() {
        Due.sentence("without: lane times 3 and the HILL of the other HOUSE less its own (not below 1).");
        int[][] hard = {{1, 0, 9, 1}, {3, 0, 9, 1}, {3, 1, 9, 1}, {3, 2, 9, 2}, {2, 0, 5, 1}, {2, 0, 6, 1}, {9, 9, 0, 36}, {1, 4, 4, 3}, {9, 0, 9, 18}};
        for (int[] h : hard) {
            NoonOnABarrow x = new NoonOnABarrow();
            x.house(h[2]);
            x.house(h[1]);
            x.lane(0, 1, h[0]);
            x.pusher(1);
            Due.is("hard of " + h[0] + " from hill " + h[2] + " to " + h[1], x.hard(0, 1, 0), h[3]);
            Due.is("pushed", x.push(1, 0), h[3]);
            Due.sentence("wears: 0 at least, 99 at most; without: 1.");
            Due.is("wears", x.barrow(5), 1);
            Due.sentence("without: lane times 3 and the HILL of the other HOUSE less its own (not below 1).");
        }
        Due.sentence("without: 12 less how far its HOUR is from 12.");
        NoonOnABarrow x = new NoonOnABarrow();
        for (int i = 0; i < 4; i++) {
            x.house(0);
        }
        x.lane(0, 1, 1);
        x.lane(1, 2, 9);
        int[] hours = {12, 13, 22, 23};
        for (int i = 0; i < 4; i++) {
            Due.is("hour", x.of(i, 3), hours[i]);
            Due.is("earns", x.of(i, 4), 24 - hours[i]);
        }
        x.pusher(9);
        x.push(1, 0);
        x.minute(1);
        x.push(2, 0);
        x.minute(3);
        Due.is("hour 2", x.of(0, 3), 2);
        Due.is("earns 2", x.of(0, 4), 2);
        x.lane(1, 2, 0);
        Due.is("hour 0", x.of(0, 3), 0);
        Due.is("earns 0", x.of(0, 4), 0);
        Due.sentence("without: 30 less 5 times FAR of the two HOUSES.");
        for (int length = 1; length <= 9; length++) {
            x.lane(0, 1, length);
            Due.is("warm of " + length, x.two(0, 1, 2), Math.max(0, 30 - 5 * length));
            Due.is("both ways", x.two(1, 0, 2), Math.max(0, 30 - 5 * length));
        }
        Due.is("itself", x.two(3, 3, 2), 30);
        Due.is("no way", x.two(0, 3, 2), 0);
    }

    private static void eachLawByItself() {
        Due.sentence("THE TEXT (told; at first none) rules.");
        String[] laws = {"hard 50;", "wears 51;", "earns 52;", "warm 53;"};
        for (int law = 0; law < 4; law++) {
            NoonOnABarrow x = Due.ruled("tip;" + laws[law]);
            x.house(0);
            x.house(0);
            x.lane(0, 1, 2);
            x.pusher(1);
            Due.is("hard", x.hard(0, 1, 0), law == 0 ? 50 : 6);
            Due.is("earns", x.of(0, 4), law == 2 ? 52 : 12);
            Due.is("warm", x.two(0, 1, 2), law == 3 ? 53 : 20);
            x.push(1, 0);
            Due.is("wears", x.barrow(5), law == 1 ? 51 : 1);
            x.by(-1);
            Due.is("without", x.hard(0, 1, 0), 6);
            Due.is("left is as it was", x.barrow(2), law == 0 ? 50 : 6);
        }
    }

    private static void whoseTheyAre() {
        Due.sentence("Whose they are: hard: here: the HOUSE it is pushed from; wears: here: the HOUSE it left; earns: the HOUSE; warm: here: the HOUSE where it is felt.");
        NoonOnABarrow x = Due.ruled("hard here*100+there*10+hill;wears here*10+hill;earns here*10+hill;warm here*10+hill+noon*2;");
        for (int i = 0; i < 8; i++) {
            x.house(i == 7 ? 9 : i);
        }
        x.lane(0, 7, 1);
        x.lane(7, 3, 1);
        x.pusher(9);
        Due.is("hard from 0 to 7", x.hard(0, 7, 0), 70);
        Due.is("hard from 7 to 0", x.hard(7, 0, 0), 709);
        Due.is("hard from 7 to 3", x.hard(7, 3, 0), 739);
        for (int i = 0; i < 8; i++) {
            Due.is("earns of " + i, x.of(i, 4), i * 10 + (i == 7 ? 9 : i));
            Due.is("warm at " + i, x.two(i, 7, 2), Math.min(99, i * 10 + (i == 7 ? 9 : i) + 14));
            Due.is("noon tried at " + i, x.two(0, i, 2), i * 2);
        }
        x.push(7, 0);
        Due.is("wears: the one it left", x.barrow(5), 0);
        x.minute(8);
        Due.is("at 7", x.barrow(0), 7);
        Due.is("nothing was worn", x.barrow(4), 99);
        x.push(3, 0);
        Due.is("wears: the one it left", x.barrow(5), 79);
        x.minute(1);
        Due.is("worn", x.barrow(4), 20);
    }

    private static void namesSayTheirNumbers() {
        Due.sentence("hour (its HOUR), pale, purse in earns; there (the other HOUSE's number), lane (how long), strength (of the PUSHER) in hard; wheels, left (LEFT) in wears; noon (the HOUSE tried) in warm.");
        NoonOnABarrow x = new NoonOnABarrow();
        Due.text(x, "earns if minute>1 then purse else hour end;hard lane*strength;wears if left>8 then 9 else 90 end;");
        Due.text(x, "earns pale+minute;wears wheels/2;warm minute;");
        x.by(0);
        x.house(0);
        x.house(0);
        x.lane(0, 1, 9);
        x.pusher(1);
        x.pusher(9);
        Due.is("9 by 1", x.hard(0, 1, 0), 9);
        Due.is("9 by 9", x.hard(1, 0, 1), 81);
        Due.is("hour", x.of(1, 4), 21);
        x.minute(2);
        Due.is("purse", x.of(1, 4), 42);
        Due.is("purse", x.of(0, 4), 24);
        x.push(1, 0);
        Due.is("left 9", x.barrow(5), 9);
        x.minute(1);
        Due.is("left 8 was asked", x.barrow(4), 9);
        x.by(1);
        Due.is("pale and minute", x.of(1, 4), 6);
        Due.is("minute", x.of(0, 4), 3);
        Due.is("wheels", x.barrow(5), 4);
        x.minute(1);
        Due.is("9 less 4", x.barrow(4), 5);
        Due.is("minute", x.two(0, 0, 2), 4);
    }

    private static void playedToTheEnd() {
        Due.sentence("PLAYED by a TEXT: NONE: all is done; else the number of the CLAUSE that can't be. -2 for others.");
        NoonOnABarrow x = new NoonOnABarrow();
        Due.is("none is told", x.played(0), -2);
        Due.is("played(-1)", x.played(-1), -2);
        Due.text(x, "");
        Due.is("no clauses", x.played(0), -1);
        Due.is("the first that isn't told", x.played(1), -2);
        Due.text(x, "hard 1;wears 2;earns 3;warm 4;");
        Due.is("laws alone", x.played(1), -1);
        Due.is("they don't rule", x.about(5), -1);
        Due.text(x, "house 0;".repeat(8) + "pusher 1;".repeat(4) + "lane 0 to 7 of 9;push 7 by 3;minute 1;tip;mend;minute 60;");
        Due.is("as much as can be", x.played(2), -1);
        Due.is("houses", x.about(0), 8);
        Due.is("pushers", x.about(1), 4);
        Due.is("minute", x.about(2), 61);
        Due.is("wheels", x.barrow(4), 99);
        Due.is("a house can't be", x.played(2), 0);
        Due.text(x, "warm 1;".concat("lane 0 to 7 of 9;").concat("lane 0 to 7 of 0;".repeat(2)) + "minute 1;".repeat(19) + "tip;");
        Due.is("the 24th can't be", x.played(3), 23);
        Due.is("minutes", x.about(2), 80);
        Due.is("the fourth is the last", x.played(4), -2);
    }

    private static void whatCantBe() {
        Due.sentence("one that can't be ends it (of so many MINUTES those that can pass do): its number among all CLAUSES (from 0); what was done stays.");
        String[][] due = {
            {"tip;house 1;", "0", "0"}, {"mend;house 1;", "0", "0"}, {"push 0 by 0;house 1;", "0", "0"},
            {"lane 0 to 1 of 1;house 1;", "0", "0"}, {"house 1;lane 0 to 0 of 1;house 1;", "1", "1"},
            {"house 1;lane 0 to 1 of 1;house 1;", "1", "1"}, {"house 1;house 1;lane 1 to 0 of 0;push 1 by 0;house 1;", "3", "2"},
            {"house 1;house 1;lane 1 to 0 of 1;push 1 by 0;house 1;", "3", "2"},
            {"house 1;house 1;lane 1 to 0 of 1;pusher 1;push 1 by 1;house 1;", "4", "2"},
            {"house 1;house 1;lane 1 to 0 of 1;pusher 1;push 1 by 0;push 1 by 0;house 1;", "5", "2"},
            {"house 1;house 1;lane 1 to 0 of 1;pusher 1;push 1 by 0;tip;tip;house 1;", "6", "2"},
            {"house 1;house 1;lane 1 to 0 of 1;pusher 1;push 1 by 0;tip;mend;mend;house 1;", "7", "2"},
            {"hard 1;house 1;wears 1;tip;house 1;", "3", "1"}, {"house 1;".repeat(9), "8", "8"},
            {"pusher 1;".repeat(5) + "house 1;", "4", "0"}};
        for (String[] d : due) {
            NoonOnABarrow x = new NoonOnABarrow();
            Due.is("text", Due.text(x, d[0]), 0);
            Due.is("played by " + d[0], x.played(0), Integer.parseInt(d[1]));
            Due.is("houses of " + d[0], x.about(0), Integer.parseInt(d[2]));
        }
        for (int n : new int[] {1, 29, 30, 31, 60}) {
            NoonOnABarrow x = State.EVENING.come();
            x.end(0);
            Due.is("text", Due.text(x, "tip;"), 2);
            Due.is("text", Due.text(x, "house 1;minute " + n + ";house 2;"), 3);
            Due.is("from 9970 on " + n, x.played(3), n <= 29 ? -1 : 1);
            Due.is("minute", x.about(2), Math.min(9999, 9970 + n));
            Due.is("houses", x.about(0), n <= 29 ? 5 : 4);
        }
        NoonOnABarrow x = State.LATE.come();
        Due.is("none can pass", x.played(0), 0);
    }

    private static void asByHand() {
        Due.sentence("PLAYED by a TEXT: its CLAUSES but laws, in their order, as by hand");
        NoonOnABarrow x = new NoonOnABarrow();
        Due.text(x, "house 0;house 9;lane 0 to 1 of 3;pusher 2;push 1 by 0;minute 3;tip;mend;push 1 by 0;minute 60;");
        Due.is("played", x.played(0), -1);
        Due.is("each minute is a step", x.about(6), 30);
        NoonOnABarrow y = new NoonOnABarrow();
        y.house(0);
        y.house(9);
        y.lane(0, 1, 3);
        y.pusher(2);
        y.push(1, 0);
        y.minute(3);
        y.tip();
        y.mend();
        y.push(1, 0);
        y.minute(60);
        for (int i = 0; i < 31; i++) {
            for (int what = 0; what < 6; what++) {
                Due.is("barrow(" + what + ")", x.barrow(what), y.barrow(what));
            }
            Due.is("purse", x.of(1, 1), y.of(1, 1));
            Due.is("pale", x.of(0, 2), y.of(0, 2));
            Due.is("undo", x.undo(), y.undo());
        }
    }

    public static void main(String[] args) {
        aMillion();
        cutTowardsZero();
        bothSides();
        farOfNumbers();
        boundsOfLaws();
        withoutALaw();
        eachLawByItself();
        whoseTheyAre();
        namesSayTheirNumbers();
        playedToTheEnd();
        whatCantBe();
        asByHand();
        Due.close();
    }
}
