import java.util.ArrayList;
import java.util.List;
import java.util.Random;

/** Long runs of drawn calls, each answered by the class and by the Model. The draws are the same each time. */
public final class ModelTest {
    private static final int RUNS = 400;
    private static final int CALLS = 512;

    private final Random random;
    private final NoonOnABarrow barrow = new NoonOnABarrow();
    private final Model model = new Model();
    private final List<String> run = new ArrayList<>();
    private final boolean wild;

    private ModelTest(long seed) {
        random = new Random(seed);
        wild = seed % 10 == 9;
    }

    private int upTo(int most) {
        return random.nextInt(most + 1);
    }

    /** A number from least to most as a rule, now and then one beside it, or any. */
    private int about(int least, int most) {
        int kind = random.nextInt(wild ? 4 : 40);
        if (kind == 0) {
            return random.nextInt();
        }
        if (kind == 1) {
            return random.nextBoolean() ? least - 1 : most + 1;
        }
        return least + random.nextInt(most - least + 1);
    }

    private int aHouse() {
        int told = barrow.about(0);
        return about(0, Math.max(0, told - 1));
    }

    private int aPusher() {
        return about(0, Math.max(0, barrow.about(1) - 1));
    }

    private boolean same(String call, long got, long due) {
        run.add(call + " = " + due);
        if (got == due) {
            return true;
        }
        System.out.println(call + " answered " + got + ", due is " + due + ", behind:");
        for (String line : run) {
            System.out.println("  " + line);
        }
        return false;
    }

    private static long number(boolean so) {
        return so ? 1 : 0;
    }

    private boolean toldCall() {
        int a = aHouse();
        int b = aHouse();
        switch (random.nextInt(6)) {
            case 0: {
                int hill = about(0, 9);
                return same("house(" + hill + ")", barrow.house(hill), model.house(hill));
            }
            case 1: {
                int s = about(1, 9);
                return same("pusher(" + s + ")", barrow.pusher(s), model.pusher(s));
            }
            case 2: {
                int w = about(1, 9);
                return same("weight(" + a + ", " + w + ")", number(barrow.weight(a, w)), number(model.weight(a, w)));
            }
            default: {
                int l = about(0, random.nextBoolean() ? 9 : 3);
                return same("lane(" + a + ", " + b + ", " + l + ")", number(barrow.lane(a, b, l)), number(model.lane(a, b, l)));
            }
        }
    }

    private boolean doneCall() {
        switch (random.nextInt(9)) {
            case 0:
            case 1:
            case 2: {
                int h = aHouse();
                int p = aPusher();
                return same("push(" + h + ", " + p + ")", barrow.push(h, p), model.push(h, p));
            }
            case 3:
                return random.nextInt(3) > 0 || same("tip()", number(barrow.tip()), number(model.tip()));
            case 4:
                return random.nextInt(3) > 0 || same("mend()", number(barrow.mend()), number(model.mend()));
            case 5: {
                int seed = about(0, 9999);
                int n = about(1, 30);
                return same("years(" + seed + ", " + n + ")", barrow.years(seed, n), model.years(seed, n));
            }
            case 6:
                return same("undo()", barrow.undo(), model.undo());
            default: {
                int n = random.nextInt(4) == 0 ? about(1, 60) : about(1, 4);
                return same("minute(" + n + ")", barrow.minute(n), model.minute(n));
            }
        }
    }

    private boolean lookedAt() {
        int house = aHouse();
        int other = aHouse();
        int what = about(0, 5);
        int n = about(1, 60);
        switch (random.nextInt(8)) {
            case 0: return same("of(" + house + ", " + what + ")", barrow.of(house, what), model.of(house, what));
            case 1: return same("two(" + house + ", " + other + ", " + what % 3 + ")",
                    barrow.two(house, other, what % 3), model.two(house, other, what % 3));
            case 2: return same("barrow(" + what + ")", barrow.barrow(what), model.barrow(what));
            case 3: {
                int p = aPusher();
                return same("hard(" + house + ", " + other + ", " + p + ")", barrow.hard(house, other, p), model.hard(house, other, p));
            }
            case 4: {
                int i = about(-1, 29);
                return same("book(" + i + ", " + what % 4 + ")", barrow.book(i, what % 4), model.book(i, what % 4));
            }
            case 5: return same("foretold(" + n + ", " + house + ", " + what % 4 + ")",
                    barrow.foretold(n, house, what % 4), model.foretold(n, house, what % 4));
            case 6: return same("arrives()", barrow.arrives(), model.arrives());
            default: {
                int w = about(0, 10);
                return same("about(" + w + ")", barrow.about(w), model.about(w));
            }
        }
    }

    private boolean wantedCall() {
        int told = barrow.about(7);
        if (told >= 3 && random.nextInt(6) == 0) {
            return same("want(-1, 0)", barrow.want(-1, 0), model.want(-1, 0));
        }
        if (random.nextInt(3) == 0) {
            int h = aHouse();
            // Hours that some noon gives, so that routes are there to be found.
            int by = Math.max(0, Math.min(7, aHouse()));
            int way = barrow.two(by, h, 0);
            int hour = random.nextInt(5) == 0 ? about(0, 23) : h <= by ? Math.max(0, 12 - way) : Math.min(23, 12 + way);
            return same("want(" + h + ", " + hour + ")", barrow.want(h, hour), model.want(h, hour));
        }
        if (random.nextInt(4) == 0) {
            return same("fitting()", barrow.fitting(), model.fitting());
        }
        int i = about(-1, 6);
        return same("route(" + i + ")", barrow.route(i), model.route(i));
    }

    private boolean feltCall() {
        if (random.nextInt(8) == 0) {
            return same("feel(-1, 0)", barrow.feel(-1, 0), model.feel(-1, 0));
        }
        if (random.nextInt(4) == 0) {
            int h = aHouse();
            int warm = random.nextInt(5) == 0 ? about(0, 99) : barrow.two(h, aHouse(), 2);
            return same("feel(" + h + ", " + warm + ")", barrow.feel(h, warm), model.feel(h, warm));
        }
        return random.nextBoolean() ? same("lost()", barrow.lost(), model.lost()) : same("yard()", barrow.yard(), model.yard());
    }

    private boolean askedCall() {
        switch (random.nextInt(7)) {
            case 0: {
                int h = aHouse();
                int p = aPusher();
                int i = about(-2, 4);
                return same("least(" + h + ", " + p + ", " + i + ")", barrow.least(h, p, i), model.least(h, p, i));
            }
            case 1: return same("winner()", barrow.winner(), model.winner());
            case 2: {
                int n = about(1, 8);
                int row = 0;
                List<Integer> houses = new ArrayList<>();
                for (int h = 0; h < 8; h++) {
                    houses.add(h);
                }
                java.util.Collections.shuffle(houses, random);
                houses.removeIf(h -> h >= barrow.about(0));
                for (int i = 0; i < n && i < 9; i++) {
                    row = row * 10 + (i < houses.size() && random.nextInt(30) > 0 ? houses.get(i) : upTo(9));
                }
                return same("agenda(" + row + ", " + n + ")", barrow.agenda(row, n), model.agenda(row, n));
            }
            case 3: {
                int n = about(1, 9);
                return same("fair(" + n + ")", barrow.fair(n), model.fair(n));
            }
            case 4: return same("thieves()", barrow.thieves(), model.thieves());
            default: {
                int n = about(1, 3);
                int d = about(0, 9);
                return same("watch(" + n + ", " + d + ")", barrow.watch(n, d), model.watch(n, d));
            }
        }
    }

    private boolean imagedCall() {
        if (random.nextInt(3) > 0) {
            return true;
        }
        return random.nextInt(3) == 0 ? same("back()", barrow.back(), model.back()) : same("image()", barrow.image(), model.image());
    }

    // ---- texts

    private String oneOf(String... any) {
        return any[random.nextInt(any.length)];
    }

    private String one(String law, int depth) {
        int kind = random.nextInt(depth <= 0 ? 6 : 11);
        if (kind < 2) {
            return String.valueOf(random.nextInt(4) == 0 ? upTo(9999) : upTo(12));
        }
        if (kind < 6) {
            switch (law) {
                case "hard": return oneOf("minute", "here", "hill", "there", "lane", "strength");
                case "wears": return oneOf("minute", "here", "hill", "wheels", "left");
                case "earns": return oneOf("minute", "here", "hill", "hour", "pale", "purse");
                default: return oneOf("minute", "here", "hill", "noon", "noon");
            }
        }
        switch (kind) {
            case 6: return "(" + sum(law, depth - 1) + ")";
            case 7: return "-" + one(law, depth - 1);
            case 8: return "far " + one(law, depth - 1) + " to " + one(law, depth - 1);
            default: return "if " + either(law, depth - 1) + " then " + sum(law, depth - 1) + " else " + sum(law, depth - 1) + " end";
        }
    }

    private String chain(String first, String joint, String more) {
        return first + joint + more;
    }

    private String sum(String law, int depth) {
        String s = product(law, depth);
        for (int i = random.nextInt(5) / 2; i > 0; i--) {
            s = chain(s, oneOf("+", "-", " - ", "+\n"), product(law, depth));
        }
        return s;
    }

    private String product(String law, int depth) {
        String s = one(law, depth);
        for (int i = random.nextInt(4) / 2; i > 0; i--) {
            s = chain(s, oneOf("*", "/", "* "), one(law, depth));
        }
        return s;
    }

    private String either(String law, int depth) {
        String s = both(law, depth);
        return random.nextInt(4) == 0 ? chain(s, " or ", both(law, depth)) : s;
    }

    private String both(String law, int depth) {
        String s = ask(law, depth);
        return random.nextInt(4) == 0 ? chain(s, " and ", ask(law, depth)) : s;
    }

    private String ask(String law, int depth) {
        if (depth > 0 && random.nextInt(5) == 0) {
            return "not " + ask(law, depth - 1);
        }
        return chain(sum(law, depth), oneOf("<", "<=", ">", ">=", "=", "#"), sum(law, depth));
    }

    private String clause() {
        switch (random.nextInt(9)) {
            case 0: return "house " + upTo(9) + ";";
            case 1: return "lane " + upTo(5) + " to " + upTo(5) + " of " + upTo(9) + ";";
            case 2: return "pusher " + (1 + upTo(8)) + ";";
            case 3: return "push " + upTo(5) + " by " + upTo(2) + ";";
            case 4: return oneOf("tip;", "mend;");
            case 5: return "minute " + (1 + upTo(9)) + ";";
            default: {
                String law = oneOf("hard", "wears", "earns", "warm");
                return law + " " + sum(law, random.nextInt(4)) + ";";
            }
        }
    }

    private String nested() {
        StringBuilder text = new StringBuilder("hard ");
        StringBuilder close = new StringBuilder();
        int depth = 7 + upTo(2);
        for (int i = 0; i < depth; i++) {
            switch (random.nextInt(5)) {
                case 0: text.append('('); close.insert(0, ')'); break;
                case 1: text.append("- "); break;
                case 2: text.append("far 1 to "); break;
                case 3: text.append("if 1<"); close.insert(0, " then 2 else 3 end"); break;
                default: text.append("if not 1="); close.insert(0, " then lane else 3 end"); i++; break;
            }
        }
        return text.append("5").append(close).append(';').toString();
    }

    private String manyClauses() {
        StringBuilder text = new StringBuilder();
        int many = 23 + upTo(3);
        for (int i = 0; i < many; i++) {
            text.append(oneOf("tip;", "mend;", "house 1;", "minute 1;"));
        }
        return text.append(oneOf("", "hard 1;", ";", "then")).toString();
    }

    private String spoiled(String text) {
        StringBuilder b = new StringBuilder(text);
        for (int i = random.nextInt(3); i > 0 && b.length() > 0; i--) {
            int at = random.nextInt(b.length());
            switch (random.nextInt(4)) {
                case 0: b.deleteCharAt(at); break;
                case 1: b.insert(at, oneOf(" ", "(", ")", ";", "-", "0", "99999", " if ", " then ", " end ", " to ", " far ",
                        " not ", " or ", " hour ", " noon ", " left ", " lane ", " hard ", " warm ", "=", "<", "x", "A", "%", "_")); break;
                case 2: b.setCharAt(at, (char) upTo(255)); break;
                default: b.setLength(at); break;
            }
        }
        return b.toString();
    }

    private boolean textCall() {
        String text;
        int kind = random.nextInt(8);
        if (kind == 0) {
            text = nested();
        } else if (kind == 1) {
            text = manyClauses();
        } else {
            StringBuilder clauses = new StringBuilder();
            for (int i = upTo(6); i > 0; i--) {
                clauses.append(clause());
            }
            text = clauses.toString();
        }
        if (random.nextInt(3) == 0) {
            text = spoiled(text);
        }
        if (text.length() > 300) {
            text = text.substring(0, 300);
        }
        return fed(text);
    }

    private boolean fed(String text) {
        if (random.nextInt(20) > 0 && !same("end(0)", barrow.end(0), model.end(0))) {
            return false;
        }
        for (int at = 0; at < text.length(); at += 20) {
            int[] five = new int[5];
            for (int i = 0; i < 20; i++) {
                int sign = at + i < text.length() ? text.charAt(at + i) : 32;
                five[i / 4] = five[i / 4] << 8 | sign;
            }
            if (!same("feed(" + five[0] + ", ..) of " + text.substring(at, Math.min(text.length(), at + 20)),
                    barrow.feed(five[0], five[1], five[2], five[3], five[4]), model.feed(five[0], five[1], five[2], five[3], five[4]))) {
                return false;
            }
        }
        int n = random.nextInt(20) == 0 ? about(0, 300) : text.length();
        return same("end(" + n + ")", barrow.end(n), model.end(n)) && same("text()", barrow.text(), model.text())
                && same("fault(0)", barrow.fault(0), model.fault(0)) && same("fault(1)", barrow.fault(1), model.fault(1));
    }

    private boolean ruledCall() {
        int text = about(-1, 3);
        if (random.nextBoolean()) {
            return same("by(" + text + ")", number(barrow.by(text)), number(model.by(text)));
        }
        return same("played(" + text + ")", barrow.played(text), model.played(text));
    }

    private boolean nextCall(int call) {
        int kind = random.nextInt(call < 40 ? 50 : 100);
        if (kind < 14) {
            return toldCall();
        }
        if (kind < 32) {
            return doneCall();
        }
        if (kind < 36) {
            return textCall();
        }
        if (kind < 40) {
            return ruledCall();
        }
        if (kind < 60) {
            return lookedAt();
        }
        if (kind < 73) {
            return wantedCall();
        }
        if (kind < 83) {
            return feltCall();
        }
        return kind < 97 ? askedCall() : imagedCall();
    }

    /** With many MINUTES the last one is come to. */
    private boolean late() {
        boolean right = true;
        for (int i = 0; right && i < 170; i++) {
            right = same("minute(60)", barrow.minute(60), model.minute(60));
        }
        return right;
    }

    private boolean goes(long seed) {
        boolean right = true;
        int first = 0;
        for (int i = 0; right && i < 4; i++) {
            right = toldCall() && doneCall();
        }
        if (seed % 60 == 0) {
            right = right && late();
            first = 170;
        }
        for (int call = first; right && call < CALLS && run.size() < CALLS; call++) {
            right = nextCall(call);
        }
        return right;
    }

    public static void main(String[] args) {
        int runs = args.length > 0 ? Integer.parseInt(args[0]) : RUNS;
        int from = args.length > 1 ? Integer.parseInt(args[1]) : 0;
        for (int seed = from; seed < from + runs; seed++) {
            if (!new ModelTest(seed).goes(seed)) {
                System.out.println("run " + seed + " is wrong");
                System.exit(1);
            }
        }
        System.out.println(runs + " runs are as the model's");
    }
}
