import java.util.ArrayList;
import java.util.Arrays;
import java.util.Comparator;
import java.util.List;
import java.util.Map;
import java.util.Set;
import java.util.TreeMap;
import java.util.TreeSet;

/**
 * The document again, written as plainly as can be with the Java library and by other ways than the class goes
 * (whole copies, all simple paths, a pushdown of what is expected, laws asked straight from the TOKENS),
 * so that both can be held against each other.
 */
final class Model {
    static final class Debt {
        final int minute;
        final int house;
        final int pence;

        Debt(int minute, int house, int pence) {
            this.minute = minute;
            this.house = house;
            this.pence = pence;
        }
    }

    /** What a STEP changes. */
    static final class Now {
        int at;
        int to = -1;
        int left;
        int pusher = -1;
        int wheels = 99;
        int minute;
        int x = 89;
        int[] purse = new int[8];
        int[] pale = new int[8];
        List<Debt> book = new ArrayList<>();

        Now copy() {
            Now n = new Now();
            n.at = at;
            n.to = to;
            n.left = left;
            n.pusher = pusher;
            n.wheels = wheels;
            n.minute = minute;
            n.x = x;
            n.purse = purse.clone();
            n.pale = pale.clone();
            n.book = new ArrayList<>(book);
            return n;
        }
    }

    static final class All {
        List<Integer> hills = new ArrayList<>();
        List<Integer> strengths = new ArrayList<>();
        int[][] lanes = new int[8][8];
        int[] weights = {1, 1, 1, 1, 1, 1, 1, 1};
        List<int[]> wanted = new ArrayList<>();
        List<int[]> felt = new ArrayList<>();
        List<List<Token>> texts = new ArrayList<>();
        int ruling = -1;
        Now now = new Now();
        List<Now> steps = new ArrayList<>();

        All copy() {
            All a = new All();
            a.hills = new ArrayList<>(hills);
            a.strengths = new ArrayList<>(strengths);
            for (int i = 0; i < 8; i++) {
                a.lanes[i] = lanes[i].clone();
            }
            a.weights = weights.clone();
            a.wanted = new ArrayList<>(wanted);
            a.felt = new ArrayList<>(felt);
            a.texts = new ArrayList<>(texts);
            a.ruling = ruling;
            a.now = now.copy();
            for (Now n : steps) {
                a.steps.add(n.copy());
            }
            return a;
        }
    }

    static final class Token {
        final String said;
        final int place;

        Token(String said, int place) {
            this.said = said;
            this.place = place;
        }

        boolean isNumber() {
            return !said.isEmpty() && Character.isDigit(said.charAt(0));
        }

        int value() {
            String digits = said.replaceFirst("^0+(?=.)", "");
            return digits.length() > 4 ? 10000 : Integer.parseInt(digits);
        }
    }

    private All all = new All();
    private All imaged = new All();
    private final List<Integer> tape = new ArrayList<>();
    private int fault = -1;
    private int faultPlace = -1;

    // ---- what is told

    private int houses() {
        return all.hills.size();
    }

    private boolean isHouse(int h) {
        return h >= 0 && h < houses();
    }

    private boolean isPusher(int p) {
        return p >= 0 && p < all.strengths.size();
    }

    int house(int hill) {
        if (hill < 0 || hill > 9 || houses() == 8) {
            return -1;
        }
        all.hills.add(hill);
        return houses() - 1;
    }

    boolean lane(int one, int other, int length) {
        if (!isHouse(one) || !isHouse(other) || one == other || length < 0 || length > 9) {
            return false;
        }
        all.lanes[one][other] = length;
        all.lanes[other][one] = length;
        return true;
    }

    int pusher(int strength) {
        if (strength < 1 || strength > 9 || all.strengths.size() == 4) {
            return -1;
        }
        all.strengths.add(strength);
        return all.strengths.size() - 1;
    }

    boolean weight(int house, int weight) {
        if (!isHouse(house) || weight < 1 || weight > 9) {
            return false;
        }
        all.weights[house] = weight;
        return true;
    }

    int want(int house, int hour) {
        return pair(all.wanted, house, hour, 23);
    }

    int feel(int house, int warm) {
        return pair(all.felt, house, warm, 99);
    }

    private int pair(List<int[]> list, int house, int number, int most) {
        if (house == -1) {
            list.clear();
            return 0;
        }
        if (!isHouse(house) || number < 0 || number > most || list.size() == 8) {
            return -2;
        }
        list.add(new int[] {house, number});
        return list.size();
    }

    // ---- how far, what hour

    private int far(int one, int other) {
        if (!isHouse(one) || !isHouse(other)) {
            return 99;
        }
        int[] best = new int[8];
        Arrays.fill(best, 99);
        best[one] = 0;
        Set<Integer> open = new TreeSet<>();
        for (int h = 0; h < houses(); h++) {
            open.add(h);
        }
        while (!open.isEmpty()) {
            int near = open.stream().min(Comparator.comparingInt(h -> best[h])).get();
            open.remove(near);
            for (int h = 0; h < houses(); h++) {
                if (all.lanes[near][h] > 0) {
                    best[h] = Math.min(best[h], best[near] + all.lanes[near][h]);
                }
            }
        }
        return best[other];
    }

    private int hourBy(int noon, int house) {
        int hour = house > noon ? 12 + far(noon, house) : 12 - far(noon, house);
        return hour < 0 ? 0 : hour > 23 ? 23 : hour;
    }

    // ---- laws

    private int ruled(String law, Map<String, Integer> names, int least, int most, int without) {
        int said = without;
        if (all.ruling >= 0) {
            List<Token> text = all.texts.get(all.ruling);
            for (int i = 0; i < text.size(); i++) {
                boolean first = i == 0 || text.get(i - 1).said.equals(";");
                if (first && text.get(i).said.equals(law)) {
                    said = new Asker(text, i + 1, names).sum();
                }
            }
        }
        return Math.min(most, Math.max(least, said));
    }

    private Map<String, Integer> names(Now n, int here) {
        Map<String, Integer> names = new TreeMap<>();
        names.put("minute", n.minute);
        names.put("here", here);
        names.put("hill", all.hills.get(here));
        return names;
    }

    private int hardBy(Now n, int from, int to, int pusher) {
        Map<String, Integer> names = names(n, from);
        names.put("there", to);
        names.put("lane", all.lanes[from][to]);
        names.put("strength", all.strengths.get(pusher));
        return ruled("hard", names, 1, 999, 3 * all.lanes[from][to] + all.hills.get(to) - all.hills.get(from));
    }

    private int wearsBy(Now n) {
        Map<String, Integer> names = names(n, n.at);
        names.put("wheels", n.wheels);
        names.put("left", n.left);
        return ruled("wears", names, 0, 99, 1);
    }

    private int earnsBy(Now n, int house) {
        Map<String, Integer> names = names(n, house);
        int hour = hourBy(n.at, house);
        names.put("hour", hour);
        names.put("pale", n.pale[house]);
        names.put("purse", n.purse[house]);
        return ruled("earns", names, -99, 99, hour > 12 ? 24 - hour : hour);
    }

    private int warmBy(Now n, int here, int noon) {
        Map<String, Integer> names = names(n, here);
        names.put("noon", noon);
        return ruled("warm", names, 0, 99, 30 - 5 * far(here, noon));
    }

    /** Asks a law straight from the TOKENS. */
    private final class Asker {
        private final List<Token> tokens;
        private final Map<String, Integer> names;
        private int at;

        Asker(List<Token> tokens, int at, Map<String, Integer> names) {
            this.tokens = tokens;
            this.at = at;
            this.names = names;
        }

        private String next() {
            return tokens.get(at).said;
        }

        private String take() {
            return tokens.get(at++).said;
        }

        private int hold(long v) {
            return (int) (v > 1000000 ? 1000000 : v < -1000000 ? -1000000 : v);
        }

        int sum() {
            int v = product();
            while (next().equals("+") || next().equals("-")) {
                long by = take().equals("+") ? 1 : -1;
                v = hold(v + by * product());
            }
            return v;
        }

        private int product() {
            int v = one();
            while (next().equals("*") || next().equals("/")) {
                boolean times = take().equals("*");
                int w = one();
                v = times ? hold((long) v * w) : w == 0 ? 0 : v / w;
            }
            return v;
        }

        private int one() {
            Token t = tokens.get(at++);
            if (t.isNumber()) {
                return t.value();
            }
            switch (t.said) {
                case "(": {
                    int v = sum();
                    take();
                    return v;
                }
                case "-":
                    return -one();
                case "far": {
                    int a = one();
                    take();
                    int b = one();
                    return far(a, b);
                }
                case "if": {
                    boolean so = either();
                    take();
                    int a = sum();
                    take();
                    int b = sum();
                    take();
                    return so ? a : b;
                }
                default:
                    return names.get(t.said);
            }
        }

        private boolean either() {
            boolean so = both();
            while (next().equals("or")) {
                take();
                so |= both();
            }
            return so;
        }

        private boolean both() {
            boolean so = ask();
            while (next().equals("and")) {
                take();
                so &= ask();
            }
            return so;
        }

        private boolean ask() {
            if (next().equals("not")) {
                take();
                return !ask();
            }
            int a = sum();
            String how = take();
            int b = sum();
            switch (how) {
                case "<": return a < b;
                case "<=": return a <= b;
                case ">": return a > b;
                case ">=": return a >= b;
                case "=": return a == b;
                default: return a != b;
            }
        }
    }

    // ---- what is done

    private void step() {
        all.steps.add(all.now.copy());
        if (all.steps.size() > 30) {
            all.steps.remove(0);
        }
    }

    private boolean canPush(Now n, int house, int pusher) {
        return n.left == 0 && isHouse(house) && isPusher(pusher) && isHouse(n.at) && all.lanes[n.at][house] > 0;
    }

    private void pushed(Now n, int house, int pusher) {
        n.left = hardBy(n, n.at, house, pusher);
        n.to = house;
        n.pusher = pusher;
    }

    private void tipped(Now n) {
        n.to = -1;
        n.left = 0;
        n.pusher = -1;
        n.wheels = Math.max(0, n.wheels - 5);
    }

    private int aMinute(Now n) {
        if (n.left > 0) {
            n.left = Math.max(0, n.left - all.strengths.get(n.pusher));
            n.wheels = Math.max(0, n.wheels - wearsBy(n));
            if (n.left == 0) {
                n.at = n.to;
                n.to = -1;
                n.pusher = -1;
            } else if (n.wheels == 0) {
                n.left = Math.min(9999, n.left + 5);
            }
        }
        int debts = 0;
        Now then = n.copy();
        for (int h = 0; h < houses(); h++) {
            n.purse[h] = Math.max(-999, Math.min(9999, then.purse[h] + earnsBy(then, h)));
            if (n.purse[h] < 0 && then.purse[h] >= 0) {
                debts++;
                n.book.add(new Debt(n.minute, h, -n.purse[h]));
                if (n.book.size() > 30) {
                    n.book.remove(0);
                }
            }
            n.pale[h] = hourBy(n.at, h) == 12 ? 0 : Math.min(99, then.pale[h] + 1);
        }
        n.minute++;
        return debts;
    }

    int push(int house, int pusher) {
        if (!canPush(all.now, house, pusher)) {
            return -1;
        }
        step();
        pushed(all.now, house, pusher);
        return all.now.left;
    }

    boolean tip() {
        if (all.now.left == 0) {
            return false;
        }
        step();
        tipped(all.now);
        return true;
    }

    boolean mend() {
        if (all.now.wheels == 99) {
            return false;
        }
        step();
        all.now.wheels = 99;
        return true;
    }

    int minute(int n) {
        if (n < 1 || n > 60 || all.now.minute + n > 9999) {
            return -1;
        }
        int debts = 0;
        for (int i = 0; i < n; i++) {
            step();
            debts += aMinute(all.now);
        }
        return debts;
    }

    private int draw(int m) {
        int x = all.now.x;
        all.now.x = (x * 283 + 193) % 30313;
        return x % m;
    }

    int years(int seed, int n) {
        if (seed < 0 || seed > 9999 || n < 1 || n > 30 || houses() == 0) {
            return -1;
        }
        step();
        Now now = all.now;
        now.x = seed * 2 + 89;
        for (int i = 0; i < n; i++) {
            int drawn = draw(6);
            if (drawn <= 1) {
                if (!all.strengths.isEmpty()) {
                    int house = draw(houses());
                    int pusher = draw(all.strengths.size());
                    if (canPush(now, house, pusher)) {
                        pushed(now, house, pusher);
                    }
                }
            } else if (drawn == 2) {
                if (now.left > 0) {
                    tipped(now);
                }
            } else if (drawn == 3) {
                now.wheels = 99;
            } else if (now.minute < 9999) {
                aMinute(now);
            }
        }
        return now.minute;
    }

    int undo() {
        if (all.steps.isEmpty()) {
            return -1;
        }
        all.now = all.steps.remove(all.steps.size() - 1);
        return all.steps.size();
    }

    // ---- texts

    int feed(int a, int b, int c, int d, int e) {
        if (tape.size() + 20 > 300) {
            return -1;
        }
        for (int four : new int[] {a, b, c, d, e}) {
            tape.add(four >> 24 & 255);
            tape.add(four >> 16 & 255);
            tape.add(four >> 8 & 255);
            tape.add(four & 255);
        }
        return tape.size();
    }

    int end(int n) {
        if (n < 0 || n > tape.size()) {
            return -1;
        }
        while (tape.size() > n) {
            tape.remove(tape.size() - 1);
        }
        return n;
    }

    private static List<Token> tokens(List<Integer> bytes) {
        StringBuilder b = new StringBuilder();
        for (int v : bytes) {
            b.append((char) v);
        }
        List<Token> tokens = new ArrayList<>();
        java.util.regex.Matcher m = java.util.regex.Pattern
                .compile("[ \\n]+|([a-zA-Z]+|[0-9]+|<=|>=|(?s:.))").matcher(b);
        while (m.find()) {
            if (m.group(1) != null) {
                tokens.add(new Token(m.group(1), m.start()));
            }
        }
        tokens.add(new Token("", bytes.size()));
        return tokens;
    }

    private static final class Refused extends RuntimeException {
        private static final long serialVersionUID = 1L;
        final int fault;

        Refused(int fault) {
            super(null, null, false, false);
            this.fault = fault;
        }
    }

    private static final List<String> DEEDS = List.of("house", "lane", "pusher", "push", "tip", "mend", "minute");
    private static final List<String> LAWS = List.of("hard", "wears", "earns", "warm");
    private static final Map<String, String> NAMES = Map.ofEntries(
            Map.entry("minute", "hard wears earns warm"), Map.entry("here", "hard wears earns warm"),
            Map.entry("hill", "hard wears earns warm"), Map.entry("hour", "earns"), Map.entry("pale", "earns"),
            Map.entry("purse", "earns"), Map.entry("there", "hard"), Map.entry("lane", "hard"),
            Map.entry("strength", "hard"), Map.entry("wheels", "wears"), Map.entry("left", "wears"),
            Map.entry("noon", "warm"));

    /** What is expected yet is on a stack: a TOKEN as "'x", a NUMBER as "#least most", the rest by its name. */
    private static void check(List<Token> tokens, int[] placeOfFault) {
        java.util.ArrayDeque<String> stack = new java.util.ArrayDeque<>();
        Set<String> laws = new TreeSet<>();
        String law = "";
        int clauses = 0;
        int open = 0;
        stack.push("clauses");
        int at = 0;
        while (!stack.isEmpty()) {
            Token t = tokens.get(at);
            placeOfFault[0] = t.place;
            String top = stack.pop();
            String put = null;
            boolean taken = false;
            if (top.startsWith("'")) {
                refuseIf(!t.said.equals(top.substring(1)), 1);
                taken = true;
            } else if (top.startsWith("#")) {
                refuseIf(!t.isNumber(), 1);
                String[] bounds = top.substring(1).split("-");
                refuseIf(t.value() < Integer.parseInt(bounds[0]) || t.value() > Integer.parseInt(bounds[1]), 2);
                taken = true;
            } else if (top.equals("clauses")) {
                if (t.said.isEmpty()) {
                    return;
                }
                refuseIf(!DEEDS.contains(t.said) && !LAWS.contains(t.said), 1);
                refuseIf(laws.contains(t.said), 4);
                refuseIf(clauses == 24, 6);
                clauses++;
                taken = true;
                if (LAWS.contains(t.said)) {
                    laws.add(t.said);
                    law = t.said;
                    put = "sum ';";
                } else {
                    put = Map.of("house", "#0-9 ';", "lane", "#0-7 'to #0-7 'of #0-9 ';", "pusher", "#1-9 ';",
                            "push", "#0-7 'by #0-3 ';", "tip", "';", "mend", "';", "minute", "#1-60 ';").get(t.said);
                }
                put = put + " clauses";
            } else if (top.equals("shut")) {
                open--;
            } else if (top.equals("one") || top.equals("ask") && t.said.equals("not")) {
                taken = true;
                if (List.of("(", "-", "far", "if", "not").contains(t.said) && !(top.equals("one") && t.said.equals("not"))) {
                    refuseIf(open == 8, 3);
                    open++;
                    put = Map.of("(", "sum ') shut", "-", "one shut", "far", "one 'to one shut",
                            "if", "either 'then sum 'else sum 'end shut", "not", "ask shut").get(t.said);
                } else if (t.isNumber()) {
                    refuseIf(t.value() > 9999, 2);
                } else {
                    refuseIf(!NAMES.containsKey(t.said), 1);
                    refuseIf(!List.of(NAMES.get(t.said).split(" ")).contains(law), 5);
                }
            } else if (top.equals("relation")) {
                refuseIf(!List.of("<", "<=", ">", ">=", "=", "#").contains(t.said), 1);
                taken = true;
            } else {
                put = expanded(top, t.said);
            }
            if (taken) {
                at++;
            }
            if (put != null && !put.isEmpty()) {
                String[] parts = put.split(" ");
                for (int i = parts.length - 1; i >= 0; i--) {
                    stack.push(parts[i]);
                }
            }
        }
    }

    private static String expanded(String symbol, String said) {
        switch (symbol) {
            case "sum": return "product sums";
            case "sums": return said.equals("+") || said.equals("-") ? "'" + said + " product sums" : "";
            case "product": return "one ones";
            case "ones": return said.equals("*") || said.equals("/") ? "'" + said + " one ones" : "";
            case "either": return "both boths";
            case "boths": return said.equals("or") ? "'or both boths" : "";
            case "both": return "ask asks";
            case "asks": return said.equals("and") ? "'and ask asks" : "";
            case "ask": return "sum relation sum";
            default: throw new IllegalStateException(symbol);
        }
    }

    private static void refuseIf(boolean so, int fault) {
        if (so) {
            throw new Refused(fault);
        }
    }

    int text() {
        if (all.texts.size() == 4) {
            return -1;
        }
        List<Token> tokens = tokens(tape);
        tape.clear();
        int[] place = new int[1];
        try {
            check(tokens, place);
        } catch (Refused r) {
            fault = r.fault;
            faultPlace = place[0];
            return -1;
        }
        fault = 0;
        faultPlace = -1;
        all.texts.add(tokens);
        return all.texts.size() - 1;
    }

    int fault(int what) {
        return what == 0 ? fault : what == 1 ? faultPlace : -1;
    }

    boolean by(int text) {
        if (text < -1 || text >= all.texts.size()) {
            return false;
        }
        all.ruling = text;
        return true;
    }

    int played(int text) {
        if (text < 0 || text >= all.texts.size()) {
            return -2;
        }
        List<Token> tokens = all.texts.get(text);
        int clause = 0;
        List<Token> one = new ArrayList<>();
        for (Token t : tokens) {
            if (!t.said.equals(";")) {
                one.add(t);
                continue;
            }
            if (!playedOne(one)) {
                return clause;
            }
            clause++;
            one.clear();
        }
        return -1;
    }

    private boolean playedOne(List<Token> c) {
        switch (c.get(0).said) {
            case "house": return house(c.get(1).value()) != -1;
            case "lane": return lane(c.get(1).value(), c.get(3).value(), c.get(5).value());
            case "pusher": return pusher(c.get(1).value()) != -1;
            case "push": return push(c.get(1).value(), c.get(3).value()) != -1;
            case "tip": return tip();
            case "mend": return mend();
            case "minute":
                for (int i = 0; i < c.get(1).value(); i++) {
                    if (minute(1) == -1) {
                        return false;
                    }
                }
                return true;
            default: return true;
        }
    }

    // ---- what is asked

    int of(int house, int what) {
        if (!isHouse(house) || what < 0 || what > 4) {
            return -1000;
        }
        return new int[] {all.hills.get(house), all.now.purse[house], all.now.pale[house],
            hourBy(all.now.at, house), earnsBy(all.now, house)}[what];
    }

    int two(int one, int other, int what) {
        if (!isHouse(one) || !isHouse(other) || what < 0 || what > 2) {
            return -1;
        }
        return new int[] {far(one, other), all.lanes[one][other], warmBy(all.now, one, other)}[what];
    }

    int barrow(int what) {
        Now n = all.now;
        switch (what) {
            case 0: return n.at;
            case 1: return n.to;
            case 2: return n.left;
            case 3: return n.pusher;
            case 4: return n.wheels;
            case 5: return n.left == 0 ? 0 : wearsBy(n);
            default: return -2;
        }
    }

    int hard(int one, int other, int pusher) {
        if (!isHouse(one) || !isHouse(other) || !isPusher(pusher) || all.lanes[one][other] == 0) {
            return -1;
        }
        return hardBy(all.now, one, other, pusher);
    }

    int book(int i, int what) {
        List<Debt> book = all.now.book;
        if (i == -1) {
            return book.size();
        }
        if (i < 0 || i >= book.size() || what < 0 || what > 2) {
            return -2;
        }
        Debt d = book.get(i);
        return what == 0 ? d.minute : what == 1 ? d.house : d.pence;
    }

    int foretold(int n, int house, int what) {
        if (n < 1 || n > 60 || !isHouse(house) || what < 0 || what > 2) {
            return -1000;
        }
        Now then = all.now.copy();
        for (int i = 0; i < n; i++) {
            if (then.minute < 9999) {
                aMinute(then);
            }
        }
        return what == 0 ? then.purse[house] : what == 1 ? then.pale[house] : hourBy(then.at, house);
    }

    int arrives() {
        Now then = all.now.copy();
        if (then.left == 0) {
            return -1;
        }
        for (int i = 1; i <= 60; i++) {
            if (then.minute == 9999) {
                return -1;
            }
            aMinute(then);
            if (then.left == 0) {
                return i;
            }
        }
        return -1;
    }

    private boolean fits(int noon, int[] want) {
        return hourBy(noon, want[0]) == want[1];
    }

    int fitting() {
        int bits = 0;
        for (int h = 0; h < houses(); h++) {
            int noon = h;
            if (all.wanted.stream().allMatch(w -> fits(noon, w))) {
                bits += 1 << h;
            }
        }
        return bits;
    }

    private static boolean lower(List<Integer> a, List<Integer> b) {
        for (int i = 0; i < a.size() && i < b.size(); i++) {
            if (!a.get(i).equals(b.get(i))) {
                return a.get(i) < b.get(i);
            }
        }
        return a.size() < b.size();
    }

    private int doneAt(int house, int done) {
        int d = done;
        while (d < all.wanted.size() && fits(house, all.wanted.get(d))) {
            d++;
        }
        return d;
    }

    private List<Integer> routed() {
        if (houses() == 0) {
            return null;
        }
        Map<String, List<Integer>> layer = new TreeMap<>();
        layer.put(all.now.at + " " + doneAt(all.now.at, 0), new ArrayList<>());
        for (int lanes = 0; lanes <= 72; lanes++) {
            List<Integer> best = null;
            Map<String, List<Integer>> next = new TreeMap<>();
            for (Map.Entry<String, List<Integer>> e : layer.entrySet()) {
                int house = Integer.parseInt(e.getKey().split(" ")[0]);
                int done = Integer.parseInt(e.getKey().split(" ")[1]);
                if (done == all.wanted.size() && (best == null || lower(e.getValue(), best))) {
                    best = e.getValue();
                }
                for (int h = 0; h < houses(); h++) {
                    if (all.lanes[house][h] > 0) {
                        List<Integer> path = new ArrayList<>(e.getValue());
                        path.add(h);
                        String key = h + " " + doneAt(h, done);
                        if (!next.containsKey(key) || lower(path, next.get(key))) {
                            next.put(key, path);
                        }
                    }
                }
            }
            if (best != null) {
                return best;
            }
            layer = next;
        }
        return null;
    }

    int route(int i) {
        List<Integer> path = routed();
        if (path == null || i < -1 || i >= path.size()) {
            return -2;
        }
        return i == -1 ? path.size() : path.get(i);
    }

    private List<Integer> leastPath;
    private int leastSum;

    private void tryPaths(List<Integer> path, int at, int sum, int goal, int[][] costs) {
        if (at == goal) {
            if (leastPath == null || sum < leastSum || sum == leastSum && lower(path, leastPath)) {
                leastPath = new ArrayList<>(path);
                leastSum = sum;
            }
            return;
        }
        for (int h = 0; h < houses(); h++) {
            if (all.lanes[at][h] > 0 && !path.contains(h) && h != all.now.at) {
                path.add(h);
                tryPaths(path, h, sum + costs[at][h], goal, costs);
                path.remove(path.size() - 1);
            }
        }
    }

    int least(int house, int pusher, int i) {
        if (all.now.left > 0 || !isHouse(house) || !isPusher(pusher)) {
            return -3;
        }
        int[][] costs = new int[8][8];
        for (int a = 0; a < houses(); a++) {
            for (int b = 0; b < houses(); b++) {
                costs[a][b] = all.lanes[a][b] > 0 ? hardBy(all.now, a, b, pusher) : 0;
            }
        }
        leastPath = null;
        tryPaths(new ArrayList<>(), all.now.at, 0, house, costs);
        if (leastPath == null || i < -2 || i >= leastPath.size()) {
            return -3;
        }
        return i == -2 ? leastSum : i == -1 ? leastPath.size() : leastPath.get(i);
    }

    private List<Integer> order(int voter) {
        List<Integer> order = new ArrayList<>();
        for (int h = 0; h < houses(); h++) {
            order.add(h);
        }
        order.sort(Comparator.comparingInt(h -> far(voter, h)));
        return order;
    }

    private boolean beats(int a, int b) {
        int ahead = 0;
        int behind = 0;
        for (int v = 0; v < houses(); v++) {
            List<Integer> order = order(v);
            if (order.indexOf(a) < order.indexOf(b)) {
                ahead++;
            } else {
                behind++;
            }
        }
        return ahead > behind;
    }

    int winner() {
        int winner = -1;
        for (int a = 0; a < houses(); a++) {
            boolean beatsAll = true;
            for (int b = 0; b < houses(); b++) {
                beatsAll &= a == b || beats(a, b);
            }
            if (beatsAll) {
                winner = a;
            }
        }
        return winner;
    }

    int agenda(int row, int n) {
        if (n < 1 || n > 8 || row < 0) {
            return -1;
        }
        String digits = String.format("%0" + n + "d", row);
        Set<Character> unlike = new TreeSet<>();
        for (char c : digits.toCharArray()) {
            if (!isHouse(c - '0') || !unlike.add(c)) {
                return -1;
            }
        }
        if (digits.length() != n) {
            return -1;
        }
        int stays = digits.charAt(0) - '0';
        for (int i = 1; i < n; i++) {
            int other = digits.charAt(i) - '0';
            stays = beats(other, stays) ? other : stays;
        }
        return stays;
    }

    int fair(int n) {
        if (n < 1 || n > 9 || houses() == 0) {
            return -1;
        }
        int[] had = new int[8];
        int whose = -1;
        for (int turn = 0; turn < n; turn++) {
            List<Integer> order = new ArrayList<>();
            for (int h = 0; h < houses(); h++) {
                order.add(h);
            }
            // 2520 is a multiple of each WEIGHT, so the fractions are whole numbers by it.
            order.sort(Comparator.<Integer>comparingInt(h -> had[h] * 2520 / all.weights[h])
                    .thenComparingInt(h -> -all.weights[h]).thenComparingInt(h -> h));
            whose = order.get(0);
            had[whose]++;
        }
        return whose;
    }

    int lost() {
        int bits = 0;
        for (int h = 0; h < houses(); h++) {
            boolean may = true;
            for (int[] f : all.felt) {
                may &= warmBy(all.now, f[0], h) == f[1];
            }
            bits += may ? 1 << h : 0;
        }
        return bits;
    }

    int yard() {
        int bits = lost();
        int yard = -1;
        int most = 0;
        for (int y = 0; y < houses(); y++) {
            Set<Integer> answers = new TreeSet<>();
            for (int h = 0; h < houses(); h++) {
                if ((bits & 1 << h) != 0) {
                    answers.add(warmBy(all.now, y, h));
                }
            }
            if (answers.size() > most) {
                most = answers.size();
                yard = y;
            }
        }
        return yard;
    }

    int thieves() {
        int at = -1;
        for (int h = houses() - 1; h >= 0; h--) {
            if (at == -1 || Math.abs(hourBy(all.now.at, h) - 12) >= Math.abs(hourBy(all.now.at, at) - 12)) {
                at = h;
            }
        }
        return at;
    }

    int watch(int n, int d) {
        if (n < 1 || n > 3 || n > houses() || d < 0 || d > 9) {
            return -1;
        }
        int best = -1;
        int most = -1;
        for (int set = 0; set < 1 << houses(); set++) {
            int watchers = 0;
            int watched = 0;
            for (int h = 0; h < houses(); h++) {
                watchers += set >> h & 1;
                boolean seen = false;
                for (int w = 0; w < houses(); w++) {
                    seen |= (set >> w & 1) == 1 && far(w, h) <= d;
                }
                watched += seen ? 1 : 0;
            }
            if (watchers == n && watched > most) {
                most = watched;
                best = set;
            }
        }
        return best;
    }

    int image() {
        imaged = all.copy();
        return all.now.minute;
    }

    int back() {
        all = imaged.copy();
        return all.now.minute;
    }

    int about(int what) {
        switch (what) {
            case 0: return houses();
            case 1: return all.strengths.size();
            case 2: return all.now.minute;
            case 3: return all.now.x;
            case 4: return all.texts.size();
            case 5: return all.ruling;
            case 6: return all.steps.size();
            case 7: return all.wanted.size();
            case 8: return all.felt.size();
            case 9: return tape.size();
            default: return -2;
        }
    }
}
