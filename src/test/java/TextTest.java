/** Promises 10 to 15, and the language of texts: the tape, reading, faults, what laws say, playing. */
public final class TextTest {
    private static void tape() {
        NoonOnABarrow x = new NoonOnABarrow();
        Due.is("end(0)", x.end(0), 0);
        Due.is("end(1) of none", x.end(1), -1);
        Due.is("end(-1)", x.end(-1), -1);
        for (int i = 1; i <= 15; i++) {
            Due.is("feed", x.feed(0x20202020, 0x20202020, 0x20202020, 0x20202020, 0x20202020), 20 * i);
        }
        Due.is("more than 300", x.feed(0, 0, 0, 0, 0), -1);
        Due.is("about(9)", x.about(9), 300);
        Due.is("end(301)", x.end(301), -1);
        Due.is("end(281)", x.end(281), 281);
        Due.is("301 would be there", x.feed(0, 0, 0, 0, 0), -1);
        Due.is("about(9)", x.about(9), 281);
        Due.is("end(280)", x.end(280), 280);
        Due.is("feed", x.feed(0x20202020, 0x20202020, 0x20202020, 0x20202020, 0x3b202020), 300);
        Due.is("the highest first", x.text(), -1);
        Due.is("; stands where the highest of e does", x.fault(1), 296);
        Due.is("the tape is empty", x.about(9), 0);
        Due.feed(x, "house ");
        Due.feed(x, "3;");
        Due.is("one behind the other", x.text(), 0);
        Due.is("played", x.played(0), -1);
        Due.is("of(0, 0)", x.of(0, 0), 3);
    }

    private static void texts() {
        NoonOnABarrow x = new NoonOnABarrow();
        Due.is("an empty tape is a text of no clauses", x.text(), 0);
        Due.is("fault(0)", x.fault(0), 0);
        Due.is("fault(1)", x.fault(1), -1);
        Due.is("fault(2)", x.fault(2), -1);
        Due.is("fault(-1)", x.fault(-1), -1);
        Due.is("played(0)", x.played(0), -1);
        Due.is("text of a fault", Due.text(x, "%"), -1);
        Due.is("about(4)", x.about(4), 1);
        for (int i = 1; i < 4; i++) {
            Due.is("text", Due.text(x, "house " + i + ";"), i);
        }
        Due.is("about(4)", x.about(4), 4);
        Due.is("a 5th", Due.text(x, "tip"), -1);
        Due.is("the tape stays", x.about(9), 3);
        Due.is("it was not read", x.fault(0), 0);
        Due.so("by(3)", x.by(3), true);
        Due.so("by(4)", x.by(4), false);
        Due.so("by(-2)", x.by(-2), false);
        Due.is("about(5)", x.about(5), 3);
        Due.so("by(-1)", x.by(-1), true);
        Due.is("about(5)", x.about(5), -1);
        Due.is("played(4)", x.played(4), -2);
        Due.is("played(-1)", x.played(-1), -2);
        Due.is("played(3)", x.played(3), -1);
        Due.is("of(0, 0)", x.of(0, 0), 3);
    }

    private static void tokens() {
        Due.fine(" house\n3 ; ");
        Due.fine("house3;tip;");
        Due.fine("house 0009;");
        Due.fine("warm 1<=2;".replace("1<=2", "if 1<=2 then 3 else 4 end"));
        Due.faulty("house 3", 1, 7);
        Due.faulty("house 3 \n", 1, 9);
        Due.faulty("House 3;", 1, 0);
        for (String letter : new String[] {"a", "z", "A", "Z"}) {
            Due.faulty(letter + "house 3;", 1, 0);
            Due.faulty("house" + letter + " 3;", 1, 0);
        }
        for (String sign : new String[] {"@", "[", "`", "{", ":", ",", "!", "~"}) {
            Due.faulty("house" + sign + " 3;", 1, 5);
        }
        Due.fine("house 0;house 9;hard 0+9;");
        Due.faulty("houses 3;", 1, 0);
        Due.faulty("hous 3;", 1, 0);
        Due.faulty("house\t3;", 1, 5);
        Due.faulty("hou se 3;", 1, 0);
        Due.faulty("house 1 2;", 1, 8);
        Due.faulty("house 3x;", 1, 7);
        Due.faulty(";", 1, 0);
        Due.faulty("tip;;", 1, 4);
        Due.faulty("tip", 1, 3);
        Due.faulty("tip 1;", 1, 4);
        Due.faulty("hard " + (char) 255 + ";", 1, 5);
        Due.faulty("hard if 1< =2 then 3 else 4 end;", 1, 11);
        Due.faulty("hard if 1=<2 then 3 else 4 end;", 1, 10);
        Due.faulty("hard if 1#=2 then 3 else 4 end;", 1, 10);
        Due.faulty("hard here;  $", 1, 12);
        Due.faulty("strengths;", 1, 0);
    }

    private static void standing() {
        Due.faulty("hard ;", 1, 5);
        Due.faulty("hard", 1, 4);
        Due.faulty("hard (1;", 1, 7);
        Due.faulty("hard 1);", 1, 6);
        Due.faulty("hard 1+;", 1, 7);
        Due.faulty("hard 1++1;", 1, 7);
        Due.faulty("hard *1;", 1, 5);
        Due.faulty("hard +1;", 1, 5);
        Due.fine("hard 1+-1--1*-(2);");
        Due.faulty("hard not 1;", 1, 5);
        Due.faulty("hard to;", 1, 5);
        Due.faulty("hard house;", 1, 5);
        Due.faulty("hard foo;", 1, 5);
        Due.faulty("hard 1 2;", 1, 7);
        Due.faulty("hard 1;2;", 1, 7);
        Due.faulty("noon;", 1, 0);
        Due.faulty("house hour;", 1, 6);
        Due.faulty("hard if (1<2) then 3 else 4 end;", 1, 10);
        Due.faulty("hard if 1<2<3 then 3 else 4 end;", 1, 11);
        Due.faulty("hard if 1 and 2 then 3 else 4 end;", 1, 10);
        Due.faulty("hard if 1<2 or then 3 else 4 end;", 1, 15);
        Due.faulty("hard if 1<2 then 3 else 4;", 1, 25);
        Due.faulty("hard if 1<2 then 3>2 else 4 end;", 1, 18);
        Due.faulty("hard far 1 of 2;", 1, 11);
        Due.fine("hard far -1 to (2+3)*4;");
        Due.faulty("hard far far 1 to 2;", 1, 19);
        Due.fine("hard far far 1 to 2 to 3;");
        Due.fine("hard far if 1=1 then 2 else 3 end to there;");
        Due.faulty("lane 1 2;", 1, 7);
        Due.faulty("lane 1 to 2 3;", 1, 12);
        Due.faulty("lane to;", 1, 5);
        Due.faulty("push 1 to 2;", 1, 7);
        Due.faulty("push 1;", 1, 6);
        Due.faulty("push (1) by 1;", 1, 5);
        Due.faulty("minute;", 1, 6);
        Due.faulty("minute -1;", 1, 7);
    }

    private static void numbers() {
        Due.fine("hard 9999+far 9999 to 8;");
        Due.faulty("hard 1+10000;", 2, 7);
        Due.faulty("hard 99999999999999999999;", 2, 5);
        Due.fine("hard 0000000000000000000000000000009999;");
        Due.faulty("tip 10000;", 1, 4);
        Due.faulty("house 10;", 2, 6);
        Due.fine("house 9;house 0;");
        Due.faulty("lane 8 to;", 2, 5);
        Due.faulty("lane 7 to 8", 2, 10);
        Due.faulty("lane 7 to 7 of 10", 2, 15);
        Due.fine("lane 7 to 7 of 0;lane 0 to 7 of 9;");
        Due.faulty("pusher 0;", 2, 7);
        Due.faulty("pusher 10;", 2, 7);
        Due.fine("pusher 1;pusher 9;");
        Due.faulty("push 8 by 4;", 2, 5);
        Due.faulty("push 7 by 4;", 2, 10);
        Due.fine("push 7 by 3;");
        Due.faulty("minute 0;", 2, 7);
        Due.faulty("minute 61;", 2, 7);
        Due.fine("minute 1;minute 60;");
    }

    private static void nesting() {
        Due.fine("hard ((((((((1))))))));");
        Due.faulty("hard (((((((((1)))))))));", 3, 13);
        Due.fine("hard --------1;");
        Due.faulty("hard ---------1;", 3, 13);
        Due.fine("hard 1---------1;");
        Due.faulty("hard 1----------1;", 3, 15);
        Due.fine("hard -1-1-1-1-1-1-1-1-1-1-1;");
        Due.fine("hard (1)+(1)+(1)+(1)+(1)+(1)+(1)+(1)+(1)+(1);");
        Due.faulty("hard --------(1);", 3, 13);
        Due.faulty("hard ((((((((far 1 to 2))))))));", 3, 13);
        Due.faulty("hard ((((((((if 1<2 then 1 else 1 end))))))));", 3, 13);
        Due.fine("hard if not not not not not not not 1<2 then 1 else 2 end;");
        Due.faulty("hard if not not not not not not not not 1<2 then 1 else 2 end;", 3, 36);
        Due.fine("hard if not not not not not not 1<(2) and not not not not not not not 1=1 then ((1)) else ((2)) end;");
        Due.faulty("hard if not not not not not not not 1<(2) then 1 else 1 end;", 3, 38);
        Due.faulty("hard far ((((((( 1 ))))))) to (((((((( 2 ))))))));", 3, 37);
        Due.faulty("hard ((((((((to))))))));", 1, 13);
        Due.faulty("hard ((((((((not))))))));", 1, 13);
    }

    private static void names() {
        String[] laws = {"hard", "wears", "earns", "warm"};
        String[] names = {"minute", "here", "hill", "hour", "pale", "purse", "there", "lane", "strength", "wheels", "left", "noon"};
        int[] of = {15, 15, 15, 4, 4, 4, 1, 1, 1, 2, 2, 8};
        for (int n = 0; n < names.length; n++) {
            for (int law = 0; law < 4; law++) {
                String text = laws[law] + " 1+" + names[n] + ";";
                if ((of[n] >> law & 1) == 1) {
                    Due.fine(text);
                } else {
                    Due.faulty(text, 5, laws[law].length() + 3);
                }
            }
        }
        Due.fine("hard lane;wears wheels;");
        Due.faulty("hard lane;wears lane;", 5, 16);
        Due.faulty("hard 1 lane;", 1, 7);
        Due.faulty("hard 1 hour;", 1, 7);
    }

    private static void clauses() {
        StringBuilder many = new StringBuilder();
        for (int i = 0; i < 23; i++) {
            many.append("mend;");
        }
        Due.fine(many + "warm 1;");
        Due.faulty(many + "warm 1;tip", 6, 122);
        Due.faulty(many + "warm 1;warm", 4, 122);
        Due.faulty(many + "warm 1;%", 1, 122);
        Due.faulty(many + "warm 1;hard 10000;", 6, 122);
        Due.faulty("hard 1;wears 1;earns 1;warm 1;earns", 4, 30);
        Due.faulty("hard 1;wears 1;tip;wears %", 4, 19);
    }

    private static int said(String sum) {
        NoonOnABarrow x = Due.ruled("earns " + sum + ";");
        x.house(7);
        x.house(8);
        x.lane(0, 1, 6);
        x.minute(1);
        return x.of(1, 4);
    }

    private static void sums() {
        Due.is("1+2*3", said("1+2*3"), 7);
        Due.is("10-3-2", said("10-3-2"), 5);
        Due.is("7/2*2", said("7/2*2"), 6);
        Due.is("-7/2", said("-7/2"), -3);
        Due.is("7/-2", said("7/-2"), -3);
        Due.is("5/0", said("5/0"), 0);
        Due.is("5/0+1", said("5/0+1"), 1);
        Due.is("-2*3", said("-2*3"), -6);
        Due.is("-(2+3)", said("-(2+3)"), -5);
        Due.is("9999*9999 is 1000000", said("9999*9999/9999-50"), 50);
        Due.is("held at each step", said("9999*9999-9999*9999"), 0);
        Due.is("above by 1", said("9999*9999+1-9999*100-90"), 10);
        Due.is("below by 1", said("-9999*9999-1+9999*100+90"), -10);
        Due.is("minute", said("minute"), 1);
        Due.is("here", said("here"), 1);
        Due.is("hill", said("hill"), 8);
        Due.is("hour", said("hour"), 18);
        Due.is("pale", said("pale"), 1);
        Due.is("purse", said("if purse=0 then 7 else purse end"), 7);
        Due.is("far here to 0", said("far here to 0"), 6);
        Due.is("far 0 to 0", said("far 0 to 0"), 0);
        Due.is("far of one not told", said("far 0 to 2-90"), 9);
        Due.is("far of itself not told", said("far 2 to 2-90"), 9);
        Due.is("far -1 to 0", said("far -1 to 0-90"), 9);
        Due.is("far 1 to 0*2", said("far 1 to 0*2"), 12);
        Due.is("held at 99", said("100"), 99);
        Due.is("held at -99", said("-100"), -99);
    }

    private static void asks() {
        String[] how = {"<", "<=", ">", ">=", "=", "#"};
        int[] less = {1, 1, 0, 0, 0, 1};
        int[] same = {0, 1, 0, 1, 1, 0};
        int[] more = {0, 0, 1, 1, 0, 1};
        for (int i = 0; i < how.length; i++) {
            Due.is("1" + how[i] + "2", said("if 1" + how[i] + "2 then 1 else 0 end"), less[i]);
            Due.is("2" + how[i] + "2", said("if 2" + how[i] + "2 then 1 else 0 end"), same[i]);
            Due.is("3" + how[i] + "2", said("if 3" + how[i] + "2 then 1 else 0 end"), more[i]);
            Due.is("not 1" + how[i] + "2", said("if not 1" + how[i] + "2 then 1 else 0 end"), 1 - less[i]);
            Due.is("not 3" + how[i] + "2", said("if not 3" + how[i] + "2 then 1 else 0 end"), 1 - more[i]);
            Due.is("1" + how[i] + "2 and 1=1", said("if 1" + how[i] + "2 and 1=1 then 1 else 0 end"), less[i]);
            Due.is("2" + how[i] + "2 and 1<2", said("if 2" + how[i] + "2 and 1<2 then 1 else 0 end"), same[i]);
            Due.is("1=2 or 3" + how[i] + "2", said("if 1=2 or 3" + how[i] + "2 then 1 else 0 end"), more[i]);
        }
        Due.is("and ahead of or", said("if 1=1 or 1=1 and 1=2 then 1 else 0 end"), 1);
        Due.is("and ahead of or", said("if 1=2 and 1=2 or 1=1 then 1 else 0 end"), 1);
        Due.is("or", said("if 1=2 or 1=2 then 1 else 0 end"), 0);
        Due.is("and", said("if 1=1 and 2=2 then 1 else 0 end"), 1);
        Due.is("not of one ask", said("if not 1=2 and 1=2 then 1 else 0 end"), 0);
        Due.is("not", said("if not not 1=2 then 1 else 0 end"), 0);
        Due.is("not of a sum's ask", said("if not 1+1=3 then 1 else 0 end"), 1);
        Due.is("if in a sum", said("2*if 1=1 then 3 else 4 end+1"), 7);
        Due.is("else in a sum", said("2*if 1=2 then 3 else 4+5 end+1"), 19);
        Due.is("if in if", said("if if 1=1 then 5 else 6 end=5 then if 1=2 then 7 else 8 end else 9 end"), 8);
    }

    private static void laws() {
        NoonOnABarrow x = Due.ruled("hard lane*100+strength*10+there+here*1000*minute;warm here*10+noon+hill-minute;wears 200;");
        x.house(3);
        x.house(0);
        x.house(0);
        x.lane(0, 1, 2);
        x.lane(1, 2, 9);
        x.pusher(4);
        Due.is("hard", x.hard(0, 1, 0), 241);
        Due.is("hard", x.hard(1, 2, 0), 942);
        Due.is("warm at 0", x.two(0, 2, 2), 5);
        Due.is("warm at 2", x.two(2, 0, 2), 20);
        Due.is("earns without", x.of(0, 4), 12);
        Due.is("push", x.push(1, 0), 241);
        Due.is("wears 99 at most", x.barrow(5), 99);
        x.minute(1);
        Due.is("hard 999 at most", x.hard(1, 2, 0), 999);
        Due.is("warm by the minute", x.two(2, 0, 2), 19);
        Due.is("wheels 0", x.barrow(4), 0);
        x.by(-1);
        Due.is("hard without", x.hard(1, 2, 0), 27);
        Due.is("warm without", x.two(0, 1, 2), 20);
        Due.is("wears without", x.barrow(5), 1);
        Due.is("a text without laws", Due.text(x, "tip;"), 1);
        x.by(1);
        Due.is("hard without", x.hard(0, 1, 0), 3);
        NoonOnABarrow y = Due.ruled("hard -5;warm -1;wears -1;");
        y.house(0);
        y.house(0);
        y.lane(0, 1, 1);
        y.pusher(1);
        Due.is("hard 1 at least", y.hard(0, 1, 0), 1);
        Due.is("warm 0 at least", y.two(0, 1, 2), 0);
        Due.is("push", y.push(1, 0), 1);
        Due.is("wears 0 at least", y.barrow(5), 0);
        NoonOnABarrow z = Due.ruled("warm 100;");
        z.house(0);
        Due.is("warm 99 at most", z.two(0, 0, 2), 99);
    }

    private static void playing() {
        NoonOnABarrow x = new NoonOnABarrow();
        Due.text(x, "hard 2;house 1;earns 9;house 2;lane 0 to 1 of 4;pusher 1;push 1 by 0;minute 3;tip;push 1 by 0;push 0 by 0;mend;");
        Due.is("played", x.played(0), 10);
        Due.is("laws of the text played don't rule", x.barrow(2), 13);
        Due.is("as by hand: steps", x.about(6), 6);
        Due.is("what was done stays", x.about(2), 3);
        Due.is("wheels", x.barrow(4), 91);
        Due.is("again", x.played(0), 4 + 2);
        Due.is("houses", x.about(0), 4);
        Due.is("tip as it lies", Due.text(x, "tip;tip;"), 1);
        Due.is("played(1)", x.played(1), 1);
        Due.is("a lane to itself", Due.text(x, "lane 1 to 1 of 2;"), 2);
        Due.is("played(2)", x.played(2), 0);
        Due.is("lanes of houses not told", Due.text(x, "warm 1;lane 0 to 2 of 3;lane 0 to 4 of 2;house 1;"), 3);
        Due.is("played(3)", x.played(3), 2);
        Due.is("lane(0, 2)", x.two(0, 2, 1), 3);
        NoonOnABarrow y = new NoonOnABarrow();
        Due.text(y, "pusher 1;pusher 1;pusher 1;pusher 1;pusher 1;");
        Due.is("the 5th pusher", y.played(0), 4);
        Due.text(y, "house 1;house 1;house 1;house 1;house 1;house 1;house 1;house 1;house 1;");
        Due.is("the 9th house", y.played(1), 8);
        Due.text(y, "mend;");
        Due.is("mend as new", y.played(2), 0);
        Due.text(y, "minute 60;minute 60;");
        Due.is("minutes", y.played(3), -1);
        Due.is("minutes", y.about(2), 120);
        Due.is("steps", y.about(6), 30);
    }

    public static void main(String[] args) {
        tape();
        texts();
        tokens();
        standing();
        numbers();
        nesting();
        names();
        clauses();
        sums();
        asks();
        laws();
        playing();
        Due.close();
    }
}
