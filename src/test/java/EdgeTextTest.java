import java.util.ArrayList;
import java.util.List;

/** Each sentence on the tape, on TEXTS and on their FAULTS, at its edges. */
public final class EdgeTextTest {
    private static final String BLANKS = " ".repeat(300);
    private static final String[] LAWS = {"hard", "wears", "earns", "warm"};

    private static int word(String four) {
        return four.charAt(0) << 24 | four.charAt(1) << 16 | four.charAt(2) << 8 | four.charAt(3);
    }

    private static void twentyBytes() {
        Due.sentence("Twenty bytes come behind the tape, the highest of a first: how many it has.");
        NoonOnABarrow x = new NoonOnABarrow();
        Due.is("20", x.feed(word("hous"), word("e 7 "), word(";lan"), word("e 0 "), word("to 1")), 20);
        Due.is("about(9)", x.about(9), 20);
        Due.is("40", x.feed(word(" of "), word("2;pu"), word("sher"), word(" 5; "), word("tip;")), 40);
        Due.is("about(9)", x.about(9), 40);
        Due.is("text", x.text(), 0);
        Due.is("the lane can't be", x.played(0), 1);
        Due.is("hill", x.of(0, 0), 7);
        for (int at = 0; at < 20; at++) {
            NoonOnABarrow y = new NoonOnABarrow();
            StringBuilder bytes = new StringBuilder(BLANKS.substring(0, 20));
            bytes.setCharAt(at, (char) 255);
            y.feed(word(bytes.substring(0, 4)), word(bytes.substring(4, 8)), word(bytes.substring(8, 12)),
                    word(bytes.substring(12, 16)), word(bytes.substring(16, 20)));
            Due.is("text", y.text(), -1);
            Due.is("byte " + at + " stands at its place", y.fault(1), at);
        }
    }

    private static void threeHundredBytes() {
        Due.sentence("NONE, and none come, if there would be more than 300.");
        NoonOnABarrow x = new NoonOnABarrow();
        for (int i = 1; i <= 14; i++) {
            Due.is("feed", x.feed(0x0a0a0a0a, 0x20202020, 0x20202020, 0x20202020, 0x20202020), 20 * i);
        }
        Due.is("280 bytes", x.about(9), 280);
        Due.is("300 bytes", x.feed(0x20202020, 0x20202020, 0x20202020, 0x20202020, 0x20202020), 300);
        Due.is("320 would be", x.feed(-1, -1, -1, -1, -1), -1);
        Due.is("300 bytes yet", x.about(9), 300);
        x.end(281);
        Due.is("301 would be", x.feed(-1, -1, -1, -1, -1), -1);
        Due.is("281 bytes yet", x.about(9), 281);
        Due.is("none of them came", x.text(), 0);
        Due.is("empty", x.about(9), 0);
        Due.is("20 again", x.feed(0, 0, 0, 0, 0), 20);
        Due.sentence("TEXTS 0 .. 3: of up to 300 bytes.");
        Due.fine(BLANKS);
        Due.fine(BLANKS.substring(4) + "tip;");
        Due.faulty(BLANKS.substring(1) + "%", 1, 299);
        Due.faulty("tip" + BLANKS.substring(3), 1, 300);
        Due.faulty(BLANKS.substring(3) + "tip", 1, 300);
        Due.faulty("tip".repeat(100), 1, 0);
        Due.faulty("9".repeat(300), 1, 0);
        Due.faulty("hard " + "9".repeat(295), 2, 5);
        Due.faulty("hard " + "0".repeat(295), 1, 300);
        Due.faulty("(".repeat(300), 1, 0);
        Due.faulty("<=".repeat(150), 1, 0);
        Due.faulty("hard" + "+".repeat(296), 1, 4);
        Due.faulty("tip;hard<" + BLANKS.substring(9), 1, 8);
        String longest = "earns7" + "+1-1".repeat(73) + ";";
        NoonOnABarrow y = Due.ruled(longest + BLANKS.substring(longest.length()));
        y.house(0);
        Due.is("the longest law", y.of(0, 4), 7);
        y = Due.ruled("warm1" + "*1/1".repeat(73) + ";");
        y.house(0);
        Due.is("the longest product", y.two(0, 0, 2), 1);
    }

    private static void theFirstBytesAlone() {
        Due.sentence("The tape has its first n bytes alone: n.");
        NoonOnABarrow x = new NoonOnABarrow();
        Due.is("none of none", x.end(0), 0);
        Due.is("one of none", x.end(1), -1);
        Due.is("-1", x.end(-1), -1);
        Due.feed(x, "house 5;house 6;tip;");
        Due.is("all of them", x.end(20), 20);
        Due.is("one more", x.end(21), -1);
        Due.is("-1", x.end(-1), -1);
        Due.is("as many as there were", x.about(9), 20);
        Due.is("the first 8", x.end(8), 8);
        Due.is("not the 9th again", x.end(9), -1);
        Due.is("8", x.about(9), 8);
        Due.feed(x, "mend;");
        Due.is("text", x.text(), 0);
        Due.is("what came behind stands there", x.played(0), 1);
        Due.is("one house", x.about(0), 1);
        Due.feed(x, "tip;");
        Due.is("none", x.end(0), 0);
        Due.is("empty", x.about(9), 0);
        Due.is("a text of no clauses", x.text(), 1);
        Due.is("played", x.played(1), -1);
    }

    private static void fourTexts() {
        Due.sentence("The tape (empty then) is a TEXT: its number. NONE: it has a FAULT; or (the tape stays) there are 4.");
        NoonOnABarrow x = new NoonOnABarrow();
        for (int i = 0; i < 4; i++) {
            Due.is("a fault", Due.text(x, "tip"), -1);
            Due.is("the tape is empty", x.about(9), 0);
            Due.is("how many", x.about(4), i);
            Due.is("not told yet", x.played(i), -2);
            Due.so("can't rule yet", x.by(i), false);
            Due.is("its number", Due.text(x, "house " + i + ";"), i);
            Due.is("the tape is empty", x.about(9), 0);
            Due.is("how many", x.about(4), i + 1);
        }
        Due.is("a 5th", Due.text(x, "house 9;"), -1);
        Due.is("the tape stays", x.about(9), 8);
        Due.is("4", x.about(4), 4);
        Due.is("the latest was the 4th", x.fault(0), 0);
        x.end(3);
        Due.is("a 5th with a fault", x.text(), -1);
        Due.is("the tape stays", x.about(9), 3);
        Due.is("it was not read", x.fault(0), 0);
        Due.is("it was not read", x.fault(1), -1);
        for (int i = 0; i < 4; i++) {
            Due.is("played(" + i + ")", x.played(i), -1);
            Due.is("as it was told", x.of(i, 0), i);
        }
    }

    private static void aFaultLeavesNothing() {
        Due.sentence("NONE: it has a FAULT");
        String[] laws = {"hard 70;", "wears 71;", "earns 72;", "warm 73;"};
        for (int law = 0; law < 4; law++) {
            NoonOnABarrow x = new NoonOnABarrow();
            Due.is("a law, and a fault", Due.text(x, laws[law] + "house 1;%"), -1);
            Due.is("the law for the first time", Due.text(x, laws[law] + "%"), -1);
            Due.is("not for the second time", x.fault(0), 1);
            Due.is("without the law", Due.text(x, "pusher 1;"), 0);
            x.by(0);
            Due.is("played", x.played(0), -1);
            Due.is("no house was in it", x.about(0), 0);
            x.house(0);
            x.house(0);
            x.lane(0, 1, 1);
            Due.is("hard", x.hard(0, 1, 0), 3);
            Due.is("earns", x.of(0, 4), 12);
            Due.is("warm", x.two(0, 1, 2), 25);
            x.push(1, 0);
            Due.is("wears", x.barrow(5), 1);
        }
        NoonOnABarrow x = new NoonOnABarrow();
        for (int i = 0; i < 9; i++) {
            Due.is("a long law with a fault", Due.text(x, "earns1" + "+1".repeat(146) + "%"), -1);
            Due.is("its place", x.fault(1), 298);
        }
        Due.is("a long one without", Due.text(x, "earns9" + "+1-1".repeat(73) + ";"), 0);
        x.by(0);
        x.house(0);
        Due.is("its law", x.of(0, 4), 9);
        x.image();
        Due.is("a text with laws", Due.text(x, "hard 70;wears 71;earns 72;warm 73;house 9;house 9;"), 1);
        x.back();
        Due.is("a text without, in its place", Due.text(x, "house 3;"), 1);
        x.by(1);
        Due.is("earns without", x.of(0, 4), 12);
        Due.is("warm without", x.two(0, 0, 2), 30);
        Due.is("played", x.played(1), -1);
        Due.is("one house more", x.about(0), 2);
    }

    private static void theLatestFault() {
        Due.sentence("Of the latest text that was read: 0 its FAULT (0 without), 1 its place (NONE without). NONE for others, and ahead of any.");
        NoonOnABarrow x = new NoonOnABarrow();
        Due.is("ahead of any", x.fault(0), -1);
        Due.is("ahead of any", x.fault(1), -1);
        Due.feed(x, "tip");
        Due.is("fed is not read", x.fault(0), -1);
        x.text();
        Due.is("1", x.fault(0), 1);
        Due.is("at 3", x.fault(1), 3);
        Due.is("fault(2)", x.fault(2), -1);
        Due.is("fault(-1)", x.fault(-1), -1);
        Due.text(x, "%");
        Due.is("at 0", x.fault(1), 0);
        Due.text(x, "tip;");
        Due.is("without", x.fault(0), 0);
        Due.is("without", x.fault(1), -1);
        Due.is("fault(2)", x.fault(2), -1);
        Due.text(x, "house 10;");
        Due.is("2", x.fault(0), 2);
        Due.is("at 6", x.fault(1), 6);
    }

    private static void theTextThatRules() {
        Due.sentence("THE TEXT (NONE: none): true. False for others.");
        NoonOnABarrow x = new NoonOnABarrow();
        x.house(0);
        Due.is("at first none", x.about(5), -1);
        Due.so("by(0) of none", x.by(0), false);
        Due.so("by(-1)", x.by(-1), true);
        for (int i = 0; i < 4; i++) {
            Due.text(x, "earns " + (i + 20) + ";");
        }
        Due.is("telling is not ruling", x.about(5), -1);
        for (int i = 3; i >= 0; i--) {
            Due.so("by", x.by(i), true);
            Due.is("it rules", x.about(5), i);
            Due.is("its law", x.of(0, 4), i + 20);
        }
        Due.so("by(4)", x.by(4), false);
        Due.so("by(-2)", x.by(-2), false);
        Due.is("as it was", x.about(5), 0);
        Due.is("as it was", x.of(0, 4), 20);
        Due.so("none", x.by(-1), true);
        Due.is("none", x.about(5), -1);
        Due.is("without", x.of(0, 4), 12);
    }

    private static boolean isLetter(int b) {
        return b >= 'a' && b <= 'z' || b >= 'A' && b <= 'Z';
    }

    private static boolean isBlank(int b) {
        return b == 32 || b == 10;
    }

    private static void everyByte() {
        Due.sentence("TOKENS, blanks (32, 10) aside: letters a .. z, A .. Z one behind the other (one TOKEN), digits likewise (NUMBERS, 0 .. 9999), <= >= < > = # + - * / ( ) ; (the longest).");
        for (int b = 0; b < 256; b++) {
            char sign = (char) b;
            if (isBlank(b)) {
                Due.fine("tip" + sign + ";");
                Due.fine(sign + "tip;" + sign);
                Due.faulty("hard 1" + sign + "1;", 1, 7);
            } else {
                Due.faulty("tip" + sign + ";", 1, isLetter(b) ? 0 : b == ';' ? 4 : 3);
                Due.faulty(sign + "tip;", 1, 0);
                if (b >= '0' && b <= '9' || "+-*/".indexOf(b) >= 0) {
                    Due.fine("hard 1" + sign + "1;");
                } else {
                    Due.faulty("hard 1" + sign + "1;", 1, b == ';' ? 7 : 6);
                }
            }
        }
        String[] asks = {"<", ">", "=", "#", "<=", ">="};
        for (String ask : asks) {
            Due.fine("hard if 1" + ask + "2 then 1 else 1 end;");
            for (String other : asks) {
                if ((ask + other).equals("<=") || (ask + other).equals(">=")) {
                    Due.fine("hard if 1" + ask + other + "2 then 1 else 1 end;");
                } else {
                    Due.faulty("hard if 1" + ask + other + "2 then 1 else 1 end;", 1, 9 + ask.length());
                }
            }
        }
        Due.faulty("hard if 1<\n=2 then 1 else 1 end;", 1, 11);
        Due.faulty("strengthstrength;", 1, 0);
        Due.faulty("hard strengths;", 1, 5);
        Due.faulty("hard strengt;", 1, 5);
        Due.faulty("hard Strength;", 1, 5);
        Due.faulty("hardstrength;", 1, 0);
        Due.fine("hard strength;");
        Due.fine("hard2*here/2;");
        Due.faulty("house1house2;", 1, 6);
    }

    private static void numbersToldAlone() {
        Due.sentence("2 a NUMBER that isn't one of those told (above 9999; HILLS, LANES 0 .. 9, HOUSES 0 .. 7, PUSHERS 0 .. 3, STRENGTH 1 .. 9, MINUTES 1 .. 60).");
        Object[][] places = {
            {"hard ", ";", 0, 9999}, {"wears 1+", ";", 0, 9999}, {"earns far ", " to 1;", 0, 9999},
            {"warm far 1 to ", ";", 0, 9999}, {"hard if 1<", " then 1 else 1 end;", 0, 9999},
            {"house ", ";", 0, 9}, {"lane ", " to 1 of 1;", 0, 7}, {"lane 1 to ", " of 1;", 0, 7}, {"lane 0 to 1 of ", ";", 0, 9},
            {"pusher ", ";", 1, 9}, {"push ", " by 0;", 0, 7}, {"push 0 by ", ";", 0, 3}, {"minute ", ";", 1, 60}};
        for (Object[] p : places) {
            String ahead = (String) p[0];
            String behind = (String) p[1];
            int least = (Integer) p[2];
            int most = (Integer) p[3];
            Due.fine(ahead + least + behind);
            Due.fine(ahead + most + behind);
            Due.fine(ahead + "000000" + most + behind);
            Due.faulty(ahead + (most + 1) + behind, 2, ahead.length());
            Due.faulty(ahead + "9999999999999" + behind, 2, ahead.length());
            Due.faulty(ahead + "4294967297" + behind, 2, ahead.length());
            if (least > 0) {
                Due.faulty(ahead + (least - 1) + behind, 2, ahead.length());
                Due.faulty(ahead + "00" + behind, 2, ahead.length());
            } else {
                Due.fine(ahead + "000" + behind);
            }
            Due.faulty(ahead + "%" + behind, 1, ahead.length());
            if (!ahead.matches("(hard|wears|earns|warm).*")) {
                Due.faulty(ahead + "-1" + behind, 1, ahead.length());
                Due.faulty(ahead + "here" + behind, 1, ahead.length());
            }
        }
    }

    /** A sum as it stands in a law, or an ask as it stands in an if. */
    private static void sum(String sum) {
        for (String law : LAWS) {
            Due.fine(law + " " + sum + ";");
        }
        Due.fine("hard if " + sum + "<" + sum + " then " + sum + " else " + sum + " end;");
    }

    private static void notASum(String ahead, String token) {
        Due.faulty("hard " + ahead + token + ";", 1, 5 + ahead.length());
    }

    private static void ask(String ask) {
        Due.fine("hard if " + ask + " then 1 else 2 end;");
    }

    private static void notAnAsk(String ahead, String token) {
        String then = token.isEmpty() ? "then" : " then";
        Due.faulty("hard if " + ahead + token + then + " 1 else 2 end;", 1, 8 + ahead.length());
    }

    private static void grammar() {
        Due.sentence("SUM: PRODUCT {+ or - PRODUCT}. PRODUCT: ONE {* or / ONE}.");
        for (String s : new String[] {"1", "1+1", "1-1", "1*1", "1/1", "1+2-3+4", "1*2/3*4", "1+2*3-4/5", "1--1", "1*-1", "1/-1", "1+-1"}) {
            sum(s);
        }
        for (String sign : new String[] {"+", "*", "/", ")", "=", "#", "<", ">", "<=", ">="}) {
            notASum("", sign);
            notASum("1+", sign);
            notASum("1-", sign);
            notASum("1*", sign);
            notASum("1/", sign);
            notASum("(", sign);
            notASum("-", sign);
        }
        notASum("", "");
        notASum("1+", "");
        notASum("1*", "");
        notASum("-", "");
        Due.sentence("ONE: NUMBER, NAME, ( SUM ), - ONE, far ONE to ONE");
        for (String s : new String[] {"here", "(1)", "(here)", "(1+1)", "-1", "-here", "-(1)", "--1", "far 1 to 2", "far here to here",
            "far (1+1) to (2)", "far -1 to -2", "far far 1 to 2 to far 3 to 4", "-far 1 to 2", "(far 1 to 2)", "far 1 to 2+3", "far 1 to 2*3"}) {
            sum(s);
        }
        notASum("(", ")");
        notASum("(1", "");
        notASum("(1 ", "2)");
        notASum("1", ")");
        notASum("1", "(");
        notASum("1 ", "here");
        notASum("here ", "1");
        notASum("here ", "here");
        notASum("far ", "to 1");
        notASum("far 1 ", "1");
        notASum("far 1 ", "of 1");
        notASum("far 1", "+1 to 1");
        notASum("far 1", "*1 to 1");
        notASum("far 1 to ", "to");
        notASum("far 1 to 1 ", "to 1");
        Due.sentence("or if EITHER then SUM else SUM end. EITHER: BOTH {or BOTH}. BOTH: ASK {and ASK}.");
        for (String a : new String[] {"1=1", "1=1 or 1=1", "1=1 and 1=1", "1=1 or 1=1 or 1=1", "1=1 and 1=1 and 1=1", "1=1 or 1=1 and 1=1 or 1=1",
            "1+1=1*1", "(1)=(1)", "-1=-1", "if 1=1 then 1 else 1 end=1", "1=if 1=1 then 1 else 1 end"}) {
            ask(a);
        }
        notAnAsk("", "");
        notAnAsk("1 ", "");
        notAnAsk("1=", "");
        notAnAsk("1=1 or ", "");
        notAnAsk("1=1 and ", "");
        notAnAsk("1=1 or ", "or 1=1");
        notAnAsk("1=1 and ", "or 1=1");
        notAnAsk("", "or 1=1");
        notAnAsk("", "and 1=1");
        notAnAsk("1=1 or 1 ", "and 1=1");
        notAnAsk("(1", "=1)");
        notAnAsk("1=1", "=1");
        notAnAsk("1<2", "<3");
        notAnAsk("1=1 ", "1=1");
        Due.faulty("hard if 1=1 else 2 end;", 1, 12);
        Due.faulty("hard if 1=1 then else 2 end;", 1, 17);
        Due.faulty("hard if 1=1 then 1 end;", 1, 19);
        Due.faulty("hard if 1=1 then 1 else end;", 1, 24);
        Due.faulty("hard if 1=1 then 1 else 2;", 1, 25);
        Due.faulty("hard if 1=1 then 1 then 2 end;", 1, 19);
        Due.faulty("hard if 1=1 then 1 else 2 else 3 end;", 1, 26);
        Due.faulty("hard if 1=1 then 1 else 2 end end;", 1, 30);
        Due.faulty("hard then;", 1, 5);
        Due.sentence("ASK: not ASK, or SUM one of < <= > >= = # (unlike) SUM.");
        for (String a : new String[] {"not 1=1", "not not 1=1", "not 1=1 or not 1=1", "not 1=1 and not 1=1", "1=1 or not 1=1", "1<1", "1<=1", "1>1", "1>=1", "1#1"}) {
            ask(a);
        }
        notAnAsk("not ", "");
        notAnAsk("not 1 ", "");
        notAnAsk("1 ", "not 1=1");
        notAnAsk("1=", "not 1");
        notAnAsk("not (1", "=1)");
        Due.sentence("{CLAUSE}, 24 at most");
        for (int n = 0; n <= 24; n++) {
            Due.fine("tip;".repeat(n));
            Due.fine("house 1;".repeat(n));
        }
        Due.faulty("tip;".repeat(25), 6, 96);
    }

    private static void theEnd() {
        Due.sentence("at the TOKEN's first byte (of the end at the length)");
        String[] texts = {"house 1;", "lane 0 to 1 of 2;", "pusher 1;", "push 1 by 0;", "tip;", "mend;", "minute 9;",
            "hard 1+2*3;", "earns far 1 to 2;", "warm if not 1<2 or 3=4 and 5#6 then 7 else 8 end;", "wears ((1)-(-2))/3;"};
        for (String text : texts) {
            for (int cut = 1; cut < text.length(); cut++) {
                boolean within = Character.isLetter(text.charAt(cut)) && Character.isLetter(text.charAt(cut - 1));
                if (!within) {
                    Due.faulty(text.substring(0, cut), 1, cut);
                    Due.faulty(text.substring(0, cut) + " \n ", 1, cut + 3);
                }
            }
            Due.fine(text);
            Due.faulty(text + ";", 1, text.length());
        }
        Due.fine("");
        Due.fine("\n ");
    }

    /** What is put around an inner ONE; the token is what is counted. */
    private static final String[][] FRAMES = {
        {"(", "", ")"}, {"-", "", ""}, {"far", "", " to 1"}, {"far", " 1 to", ""}, {"if", "", "=1 then 1 else 1 end"},
        {"if", " 1=", " then 1 else 1 end"}, {"if", " 1=1 or 1<", " then 1 else 1 end"},
        {"if", " 1=1 and", ">1 then 1 else 1 end"},
        {"if", " 1=1 then", " else 1 end"}, {"if", " 1=1 then 1 else", " end"}};

    private static String nest(List<String[]> frames, String inner, List<Integer> places) {
        StringBuilder text = new StringBuilder("hard");
        StringBuilder close = new StringBuilder();
        for (String[] frame : frames) {
            text.append(' ');
            places.add(text.length());
            text.append(frame[0]).append(frame[1]);
            close.insert(0, frame[2]);
        }
        return text.append(' ').append(inner).append(close).append(';').toString();
    }

    private static void nineOpen() {
        Due.sentence("3 the 9th of (, not, far, if and - (of one ONE) that are open around one another (at it).");
        for (String[] outer : FRAMES) {
            for (String[] inner : FRAMES) {
                List<String[]> frames = new ArrayList<>();
                for (int i = 0; i < 7; i++) {
                    frames.add(outer);
                }
                frames.add(inner);
                Due.fine(nest(frames, "1", new ArrayList<>()));
                frames.add(0, outer);
                List<Integer> places = new ArrayList<>();
                Due.faulty(nest(frames, "1", places), 3, places.get(8));
            }
        }
        Due.fine("hard ((((((( if 1=1 then 1 else 1 end )))))));");
        Due.faulty("hard ((((((( if not 1=1 then 1 else 1 end )))))));", 3, 16);
        Due.faulty("hard ((((((( if 1=1 or not 1=1 then 1 else 1 end )))))));", 3, 23);
        Due.faulty("hard ((((((( if 1=1 and not 1=1 then 1 else 1 end )))))));", 3, 24);
        Due.fine("hard if not not not not not not not 1=1 then 1 else 1 end;");
        Due.faulty("hard if not not not not not not not not 1=1 then 1 else 1 end;", 3, 36);
        Due.faulty("hard if not not not not not not not -1=1 then 1 else 1 end;", 3, 36);
        Due.faulty("hard if not not not not not not not 1=-1 then 1 else 1 end;", 3, 38);
        Due.fine("hard if not if not if not if not 1=1 then 1 else 1 end=1 then 1 else 1 end=1 then 1 else 1 end=1 then 1 else 1 end;");
        Due.faulty("hard if not if not if not if not (1)=1 then 1 else 1 end=1 then 1 else 1 end=1 then 1 else 1 end=1 then 1 else 1 end;", 3, 33);
    }

    private static void closedOnesDontCount() {
        Due.sentence("that are open around one another");
        Due.fine("hard (1)+(1)+(1)+(1)+(1)+(1)+(1)+(1)+(1)+(1)+(1);");
        Due.fine("hard -1*-1*-1*-1*-1*-1*-1*-1*-1*-1*-1;");
        Due.fine("hard 1-1-1-1-1-1-1-1-1-1-1-1-1-1-1;");
        Due.fine("hard far far 1 to 2 to far 1 to 2+far far 1 to 2 to far 1 to 2+far far 1 to 2 to far 1 to 2;");
        Due.fine("hard if not 1=1 or not 1=1 or not 1=1 and not 1=1 and not 1=1 or not 1=1 or not 1=1 or not 1=1 or not 1=1 then 1 else 1 end;");
        Due.fine("hard if 1=1 then 1 else 1 end+if 1=1 then 1 else 1 end+if 1=1 then 1 else 1 end+if 1=1 then 1 else 1 end"
                + "+if 1=1 then 1 else 1 end+if 1=1 then 1 else 1 end+if 1=1 then 1 else 1 end+if 1=1 then 1 else 1 end+if 1=1 then 1 else 1 end;");
        Due.fine("hard -------(1)+-------(1);");
        Due.fine("hard far -------1 to -------1+--------1;");
        Due.fine("hard if -------1=-------1 then -------1 else -------1 end;");
        Due.fine("hard if not ------1=------1 then -------1 else -------1 end;");
        Due.faulty("hard if not ------1=-------1 then 1 else 1 end;", 3, 26);
        Due.faulty("hard if not 1=1 then --------1 else 1 end;", 3, 28);
        Due.faulty("hard if not 1=1 then 1 else --------1 end;", 3, 35);
        Due.faulty("hard far -1 to --------1;", 3, 22);
        Due.fine("hard --------1;wears --------1;earns --------1;warm --------1;");
    }

    private static void theSecondTime() {
        Due.sentence("4 hard, wears, earns, warm for the second time (at it).");
        for (String law : LAWS) {
            for (String other : LAWS) {
                String text = law + " 1;" + other + " 2;";
                if (law.equals(other)) {
                    Due.faulty(text, 4, law.length() + 3);
                    Due.faulty(law + " 1;tip;" + law, 4, law.length() + 7);
                } else {
                    Due.fine(text);
                    Due.faulty(text + law + " %", 4, text.length());
                    Due.faulty(text + other + " 1;", 4, text.length());
                }
            }
        }
        Due.fine("house 1;house 1;lane 0 to 1 of 1;lane 0 to 1 of 1;pusher 1;pusher 1;push 1 by 0;push 1 by 0;tip;tip;mend;mend;minute 1;minute 1;");
        NoonOnABarrow x = new NoonOnABarrow();
        for (int i = 0; i < 4; i++) {
            Due.is("once in each text", Due.text(x, "hard 1;"), i);
        }
    }

    private static void twentyFiveClauses() {
        Due.sentence("6 the 25th CLAUSE (at its first TOKEN).");
        String twenty = "tip;".repeat(20);
        String laws = "hard 1;wears 1;earns 1;warm 1;";
        Due.fine(twenty + laws);
        Due.fine(twenty + "mend;mend;mend;mend;");
        Due.fine("tip;".repeat(23));
        String full = laws + twenty;
        for (String more : new String[] {"tip;", "mend;", "minute 1;", "house 1;", "lane 0 to 1 of 1;", "pusher 1;", "push 1 by 1;", "tip"}) {
            Due.faulty(full + more, 6, full.length());
            Due.faulty(full + " \n" + more, 6, full.length() + 2);
        }
        for (String law : LAWS) {
            Due.faulty("tip;".repeat(24) + law + " 1;", 6, 96);
        }
        Due.sentence("FAULTS, the first as TOKENS are come to, at the TOKEN's first byte (of the end at the length), of one the least");
        Due.faulty(full + "hard 1;", 4, full.length());
        Due.faulty(full + "%", 1, full.length());
        Due.faulty(full + "5", 1, full.length());
        Due.faulty(full + ";", 1, full.length());
        Due.fine(full + "\n");
        Due.faulty(twenty + "tip;tip;tip;tip tip;", 1, 96);
    }

    private static void theLeastOfOne() {
        Due.sentence("1 it can't stand there, or is none.");
        Due.faulty("tip 10000;", 1, 4);
        Due.faulty("hard 1 10000;", 1, 7);
        Due.faulty("hard 1 hour;", 1, 7);
        Due.faulty("hard 1;hard hour;", 4, 7);
        Due.faulty("hard ((((((((not 1=1))))))));", 1, 13);
        Due.faulty("hard (((((((( then", 1, 14);
        Due.faulty("hard ((((((((10000", 2, 13);
        Due.faulty("hard ((((((((hour", 5, 13);
        Due.sentence("FAULTS, the first as TOKENS are come to");
        Due.faulty("hard hour+10000;", 5, 5);
        Due.faulty("hard 10000+hour;", 2, 5);
        Due.faulty("hard 10000", 2, 5);
        Due.faulty("hard (((((((((10000", 3, 13);
        Due.faulty("hard hour", 5, 5);
        Due.faulty("house 10 %", 2, 6);
        Due.faulty("hard 1 hard 2;", 1, 7);
        Due.faulty("hard hard 2;", 1, 5);
        for (String word : new String[] {"house", "pusher", "push", "tip", "mend", "to", "of", "by", "then", "else", "end",
            "not", "or", "and", "hard", "wears", "earns", "warm", "foo", "x"}) {
            Due.faulty("hard 1+" + word + ";", 1, 7);
        }
        for (String word : new String[] {"to", "of", "by", "far", "if", "then", "else", "end", "not", "or", "and", "here",
            "hill", "hour", "pale", "purse", "there", "strength", "wheels", "left", "noon", "1", "(", "-"}) {
            Due.faulty("tip;" + word + " 1;", 1, 4);
        }
    }

    private static void namesOfThatClause() {
        Due.sentence("5 a NAME that isn't of that CLAUSE (at it).");
        Due.sentence("NAMES: minute, here (its number), hill (its) in all; hour (its HOUR), pale, purse in earns; there (the other HOUSE's number), lane (how long), strength (of the PUSHER) in hard; wheels, left (LEFT) in wears; noon (the HOUSE tried) in warm.");
        String[][] names = {{"minute", "hard wears earns warm"}, {"here", "hard wears earns warm"}, {"hill", "hard wears earns warm"},
            {"hour", "earns"}, {"pale", "earns"}, {"purse", "earns"}, {"there", "hard"}, {"lane", "hard"}, {"strength", "hard"},
            {"wheels", "wears"}, {"left", "wears"}, {"noon", "warm"}};
        for (String[] name : names) {
            for (String law : LAWS) {
                boolean its = List.of(name[1].split(" ")).contains(law);
                for (String ahead : new String[] {law + " ", law + " 1-(2*", law + " far ", law + " if not 1<", "tip;" + law + " if 1=1 then 1 else -"}) {
                    if (its) {
                        Due.faulty(ahead + name[0], 1, ahead.length() + name[0].length());
                    } else {
                        Due.faulty(ahead + name[0], 5, ahead.length());
                    }
                }
            }
        }
    }

    public static void main(String[] args) {
        twentyBytes();
        threeHundredBytes();
        theFirstBytesAlone();
        fourTexts();
        aFaultLeavesNothing();
        theLatestFault();
        theTextThatRules();
        everyByte();
        numbersToldAlone();
        grammar();
        theEnd();
        nineOpen();
        closedOnesDontCount();
        theSecondTime();
        twentyFiveClauses();
        theLeastOfOne();
        namesOfThatClause();
        Due.close();
    }
}
