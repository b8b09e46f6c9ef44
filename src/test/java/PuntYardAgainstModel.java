import java.math.BigInteger;
import java.util.ArrayList;
import java.util.Arrays;
import java.util.Comparator;
import java.util.HashMap;
import java.util.List;
import java.util.Map;
import java.util.Random;
import java.util.TreeSet;

/** Runs of calls from a fixed seed, each answer held against a slow model written minute by minute from the document. */
public final class PuntYardAgainstModel {
    private static final int RUNS = 1500;
    private static final int CALLS = 500;

    public static void main(String[] args) {
        int runs = args.length > 0 ? Integer.parseInt(args[0]) : RUNS;
        int firstSeed = args.length > 1 ? Integer.parseInt(args[1]) : 1;
        int wrong = 0;
        Map<String, Integer> asked = new HashMap<>();
        Map<String, TreeSet<Long>> seen = new HashMap<>();
        for (int seed = firstSeed; seed < firstSeed + runs && wrong < 5; seed++) {
            Run run = new Run(seed);
            for (int i = 0; i < CALLS; i++) {
                String fault = run.step();
                asked.merge(run.name, 1, Integer::sum);
                TreeSet<Long> answers = seen.computeIfAbsent(run.name, k -> new TreeSet<>());
                if (answers.size() < 50) {
                    answers.add(run.got);
                }
                if (fault != null) {
                    System.out.println("seed " + seed + ", call " + i + ": " + fault);
                    wrong++;
                    break;
                }
            }
        }
        for (String name : Run.NAMES) {
            TreeSet<Long> answers = seen.getOrDefault(name, new TreeSet<>());
            if (answers.size() < 2 && runs >= 100) {
                System.out.println(name + " was never put to the test: " + answers);
                wrong++;
            }
        }
        if (args.length > 2) {
            System.out.println(asked);
            System.out.println(seen);
        }
        System.out.println(wrong == 0 ? "the class answers as the model does" : "the class and the model differ");
        if (wrong != 0) {
            System.exit(1);
        }
    }

    /** One object and its model, and a source of calls. */
    static final class Run {
        static final String[] NAMES = {"feed", "law", "fault", "rule", "water", "rain", "boat", "free", "out", "back",
            "mend", "swamp", "cushions", "weed", "cut", "hire", "known", "bill", "outs", "takings", "differ", "cost",
            "worst", "together", "worn", "old", "doubt", "queue", "chance", "keep", "least", "protect", "roll",
            "rolled", "guide", "party", "guided", "pay", "earned", "pass", "pole", "paint", "painted", "fail",
            "renew", "loyal", "tout", "nest", "regatta", "barred", "image", "restore", "count"};
        final Random random;
        final PuntYard x = new PuntYard();
        Model m = new Model();
        final List<int[]> feeds = new ArrayList<>();
        int due = -1;
        final int dayLimit;
        final int[] weights = new int[NAMES.length];
        String name;
        long got;

        Run(int seed) {
            random = new Random(seed);
            dayLimit = random.nextBoolean() ? 2 : 1 + random.nextInt(100);
            String[] groups = {"out out out back back mend swamp cushions bill bill boat",
                "out out back back cost takings worst together worn old differ outs known boat rain queue doubt",
                "out back pass pole barred nest regatta mend boat",
                "paint painted fail renew boat guide party guided pay earned loyal tout roll rolled",
                "law rule fault free water weed cut out back swamp bill boat rain"};
            String often = groups[random.nextInt(groups.length)];
            for (int i = 0; i < NAMES.length; i++) {
                weights[i] = 2 + random.nextInt(4);
                for (String word : often.split(" ")) {
                    weights[i] += NAMES[i].equals(word) ? random.nextInt(60) : 0;
                }
                weights[i] = NAMES[i].matches("restore|image|feed") ? 1 : weights[i];
            }
            if (random.nextInt(3) != 0) {
                due = new TextMaker(random).plainLaw(feeds);
            }
            if (random.nextInt(3) == 0) {
                for (int hour = 0; hour < 12; hour++) {
                    int left = 10;
                    for (int n = 0; n < 6; n++) {
                        int parts = n == 5 ? left : random.nextInt(left + 1);
                        left -= parts;
                        x.chance(hour, n, parts);
                        m.chance(hour, n, parts);
                    }
                }
            }
        }

        int any(int low, int high) {
            if (random.nextInt(60) == 0) {
                int[] odd = {low - 1, high + 1, low, high, -1, -2, Integer.MIN_VALUE, Integer.MAX_VALUE, 1000, 720};
                return odd[random.nextInt(odd.length)];
            }
            return low + random.nextInt(Math.max(1, high - low + 1));
        }

        int day() {
            return any(0, dayLimit - 1);
        }

        int moment() {
            return any(0, dayLimit * 720 - 1);
        }

        int nearMoment(int hire) {
            if (hire >= 0 && hire < m.s.hires.size() && random.nextInt(10) != 0) {
                int out = m.s.hires.get(hire)[2];
                int left = 720 - out % 720;
                return out + random.nextInt(random.nextBoolean() ? left : Math.min(left, 90));
            }
            return moment();
        }

        int boat() {
            return any(0, m.s.kinds.size() - 1);
        }

        int hire() {
            return any(0, m.s.hires.size() - 1);
        }

        int telling() {
            int last = m.s.tellings.size();
            return random.nextInt(3) == 0 ? last : any(0, last);
        }

        int pick() {
            int sum = Arrays.stream(weights).sum();
            int at = random.nextInt(sum);
            for (int i = 0; i < weights.length; i++) {
                at -= weights[i];
                if (at < 0) {
                    return i;
                }
            }
            return 0;
        }

        String compare(String call, long gotten, long want) {
            got = gotten;
            return gotten == want ? null : call + " answered " + gotten + ", the model " + want;
        }

        String compare(String call, boolean gotten, boolean want) {
            return compare(call, gotten ? 1 : 0, want ? 1 : 0);
        }

        String step() {
            if (!feeds.isEmpty()) {
                name = "feed";
                int[] f = feeds.remove(0);
                return compare("feed", x.feed(f[0], f[1], f[2], f[3], f[4]), m.feed(f));
            }
            if (due >= 0) {
                name = "law";
                int n = random.nextInt(8) == 0 ? any(0, 40) : due;
                due = -1;
                int day = random.nextInt(3) == 0 ? 0 : day();
                String text = m.tapeText();
                return compare("law(" + n + ", " + day + ") of '" + text + "'", x.law(n, day), m.law(n, day));
            }
            name = NAMES[pick()];
            String one = stepYard();
            return one != null && one.equals("?") ? stepRest() : one;
        }

        void write() {
            String text = new TextMaker(random).law();
            due = text.length();
            TextMaker.split(text, feeds);
        }

        String stepYard() {
            int a, b, c, d, e;
            switch (name) {
                case "feed":
                    if (random.nextInt(4) == 0) {
                        a = random.nextInt();
                        return compare("feed", x.feed(a, a, a, a, a), m.feed(new int[] {a, a, a, a, a}));
                    }
                    write();
                    return step();
                case "law":
                    if (random.nextInt(4) == 0) {
                        a = any(0, 30);
                        b = day();
                        return compare("law", x.law(a, b), m.law(a, b));
                    }
                    write();
                    return step();
                case "fault": return compare("fault", x.fault(), m.faultPlace);
                case "rule":
                    a = day();
                    b = random.nextBoolean() ? any(0, 45) : any(95, 205);
                    return compare("rule(" + a + ", " + b + ")", x.rule(a, b), m.rule(a, b));
                case "water": a = day(); b = any(0, 99); return compare("water", x.water(a, b), m.water(a, b));
                case "rain":
                    a = day(); b = any(0, 719); c = random.nextInt(8) == 0 ? any(0, 719) : Math.min(719, b + random.nextInt(100));
                    return compare("rain", x.rain(a, b, c), m.rain(a, b, c));
                case "boat": a = any(0, random.nextBoolean() ? 1 : 3); return compare("boat", x.boat(a), m.boat(a));
                case "free": a = boat(); b = moment(); return compare("free(" + a + ", " + b + ")", x.free(a, b), m.free(a, b));
                case "out":
                    a = boat(); b = any(0, random.nextBoolean() ? 2 : 9); c = latest(a); d = any(1, random.nextBoolean() ? 60 : 720);
                    return compare("out(" + a + ", " + b + ", " + c + ", " + d + ")", x.out(a, b, c, d), m.out(a, b, c, d));
                case "back":
                    a = openHire(); b = nearMoment(a);
                    return compare("back(" + a + ", " + b + ")", x.back(a, b), m.back(a, b));
                case "mend":
                    a = hire(); b = nearMoment(a);
                    return compare("mend(" + a + ", " + b + ")", x.mend(a, b), m.mend(a, b));
                case "swamp": a = hire(); b = any(0, random.nextBoolean() ? 3 : 9999); return compare("swamp", x.swamp(a, b), m.swamp(a, b));
                case "cushions":
                    a = hire(); b = any(0, 9); c = any(0, 9);
                    return compare("cushions", x.cushions(a, b, c), m.cushions(a, b, c));
                case "weed": a = any(0, 99); return compare("weed", x.weed(a), m.weed(a));
                case "cut": a = any(0, 99); return compare("cut", x.cut(a), m.cut(a));
                case "hire": a = hire(); b = any(0, 6); return compare("hire", x.hire(a, b), m.hire(a, b));
                case "known": a = hire(); b = telling(); return compare("known(" + a + ", " + b + ")", x.known(a, b), m.known(a, b));
                case "bill":
                    a = hire(); b = telling(); c = any(0, 8);
                    return compare("bill(" + a + ", " + b + ", " + c + ")", x.bill(a, b, c), m.bill(a, b, c));
                case "outs": a = moment(); b = telling(); return compare("outs(" + a + ", " + b + ")", x.outs(a, b), m.outs(a, b));
                case "takings": a = day(); b = telling(); return compare("takings(" + a + ", " + b + ")", x.takings(a, b), m.takings(a, b));
                case "differ":
                    a = telling(); b = random.nextBoolean() ? a - 1 : telling(); c = any(-1, 5);
                    return compare("differ(" + a + ", " + b + ", " + c + ")", x.differ(a, b, c), m.differ(a, b, c));
                case "cost": a = any(0, 3); b = telling(); return compare("cost(" + a + ", " + b + ")", x.cost(a, b), m.cost(a, b));
                case "worst":
                    a = day(); b = telling(); c = any(0, 1);
                    return compare("worst(" + a + ", " + b + ", " + c + ")", x.worst(a, b, c), m.worst(a, b, c));
                case "together":
                    a = any(0, 3); b = any(0, 3); c = day(); d = telling(); e = any(0, 1);
                    return compare("together", x.together(a, b, c, d, e), m.together(a, b, c, d, e));
                case "worn": a = boat(); b = telling(); c = any(0, 1); return compare("worn", x.worn(a, b, c), m.worn(a, b, c));
                case "old": a = boat(); b = telling(); return compare("old(" + a + ", " + b + ")", x.old(a, b), m.old(a, b));
                case "doubt": a = any(0, 240); b = any(0, 240); return compare("doubt", x.doubt(a, b), m.doubt(a, b));
                case "queue":
                    a = any(0, 1); b = any(1, 5); c = random.nextBoolean() ? moment() : nearMoment(hire()); d = any(0, 1);
                    return compare("queue(" + a + ", " + b + ", " + c + ", " + d + ")", x.queue(a, b, c, d), m.queue(a, b, c, d));
                default: return "?";
            }
        }

        int openHire() {
            int tries = random.nextInt(3) * 20;
            int hire = hire();
            for (int i = 0; i < tries && m.known(hire, m.s.tellings.size()) != -1; i++) {
                hire = hire();
            }
            return hire;
        }

        int latest(int boat) {
            int moment = moment();
            if (random.nextInt(4) != 0) {
                for (int h = 0; h < m.s.hires.size(); h++) {
                    if (m.s.hires.get(h)[0] == boat) {
                        int back = m.known(h, m.s.tellings.size());
                        moment = Math.max(back, 0) + random.nextInt(20);
                    }
                }
            }
            return moment;
        }

        String stepRest() {
            int a, b, c, d;
            switch (name) {
                case "chance":
                    a = any(0, 11); b = any(0, 5); c = m.missing(a, b);
                    c = random.nextInt(5) == 0 ? any(0, 10) : c;
                    return compare("chance", x.chance(a, b, c), m.chance(a, b, c));
                case "keep":
                    a = any(0, 12); b = any(1, 3); c = any(0, 3);
                    return compare("keep(" + a + ", " + b + ", " + c + ")", x.keep(a, b, c), m.keep(a, b, c));
                case "least":
                    a = any(1, 3); b = any(0, 100);
                    return compare("least(" + a + ", " + b + ")", x.least(a, b), m.least(a, b));
                case "protect":
                    a = any(0, 12); b = any(0, 999); c = any(0, 999); d = any(0, 1);
                    return compare("protect", x.protect(a, b, c, d), m.protect(a, b, c, d));
                case "roll": a = any(0, random.nextBoolean() ? 40 : 719); b = any(1, 99); return compare("roll", x.roll(a, b), m.roll(a, b));
                case "rolled": a = random.nextBoolean() ? any(0, 1) : any(9, 18); return compare("rolled(" + a + ")", x.rolled(a), m.rolled(a));
                case "guide": a = any(0, 255) | random.nextInt(256); return compare("guide", x.guide(a), m.guide(a));
                case "party": a = any(0, 255) & random.nextInt(256); b = any(0, random.nextBoolean() ? 2 : 999); return compare("party", x.party(a, b), m.party(a, b));
                case "guided": a = random.nextBoolean() ? any(0, 2) : any(9, 19); return compare("guided(" + a + ")", x.guided(a), m.guided(a));
                case "pay": a = any(0, 100); return compare("pay", x.pay(a), m.pay(a));
                case "earned": a = any(-1, 8); return compare("earned", x.earned(a), m.earned(a));
                case "pass": {
                    a = hire(); b = any(0, 65535);
                    boolean clean = random.nextBoolean();
                    return compare("pass", x.pass(a, b, clean), m.pass(a, b, clean));
                }
                case "pole": a = hire(); return compare("pole", x.pole(a), m.pole(a));
                case "paint": a = boat(); b = any(0, 9); c = any(0, random.nextBoolean() ? 5 : 99); return compare("paint", x.paint(a, b, c), m.paint(a, b, c));
                case "painted": a = any(1, 2); b = any(0, 1); return compare("painted(" + a + ", " + b + ")", x.painted(a, b), m.painted(a, b));
                case "fail": a = boat(); b = any(0, 100); c = any(0, random.nextBoolean() ? 2 : 999); return compare("fail", x.fail(a, b, c), m.fail(a, b, c));
                case "renew": a = any(0, 90); b = any(0, 1); return compare("renew(" + a + ", " + b + ")", x.renew(a, b), m.renew(a, b));
                case "loyal": a = any(0, random.nextBoolean() ? 40 : 999); return compare("loyal", x.loyal(a), m.loyal(a));
                case "tout": a = any(0, 999); b = any(0, 9999); c = any(0, 3); return compare("tout", x.tout(a, b, c), m.tout(a, b, c));
                case "nest": a = any(0, 15); b = day(); c = any(0, 99); return compare("nest", x.nest(a, b, c), m.nest(a, b, c));
                case "regatta": a = day(); b = any(0, 719); c = any(b, 719); d = any(0, 65535); return compare("regatta", x.regatta(a, b, c, d), m.regatta(a, b, c, d));
                case "barred": a = hire(); b = telling(); return compare("barred(" + a + ", " + b + ")", x.barred(a, b), m.barred(a, b));
                case "image": return compare("image", x.image(), m.image());
                case "restore": a = random.nextInt(2) == 0 ? any(0, 2) : -1; return compare("restore", x.restore(a), m.restore(a));
                case "count": a = random.nextBoolean() ? any(-1, 14) : any(199, 300); return compare("count(" + a + ")", x.count(a), m.count(a));
                default: throw new IllegalStateException(name);
            }
        }
    }

    /** Texts of LAWS, some of them with a fault. */
    static final class TextMaker {
        final Random random;

        TextMaker(Random random) {
            this.random = random;
        }

        String gap() {
            String[] gaps = {" ", " ", " ", "\n", "  "};
            return gaps[random.nextInt(gaps.length)];
        }

        int number(int low, int high) {
            return low + random.nextInt(high - low + 1);
        }

        static void split(String text, List<int[]> feeds) {
            StringBuilder padded = new StringBuilder(text);
            while (padded.length() % 20 != 0) {
                padded.append(' ');
            }
            for (int i = 0; i < padded.length(); i += 20) {
                int[] n = new int[5];
                for (int k = 0; k < 20; k++) {
                    n[k / 4] = n[k / 4] << 8 | padded.charAt(i + k) & 255;
                }
                feeds.add(n);
            }
        }

        // A law that prices all, so that bills are seldom 0.
        int plainLaw(List<int[]> feeds) {
            StringBuilder text = new StringBuilder();
            for (int k = 0; k < 4; k++) {
                text.append("price " + k + " " + number(1, 200) + " each " + number(1, 60) + ";deposit " + k + " " + number(0, 999) + ";");
                text.append("right " + number(0, 2) + " " + number(0, 1) + " " + number(1, 240) + ";");
            }
            text.append("late " + number(0, 99) + " each " + number(1, 60) + " grace " + number(0, 30) + ";rain " + number(1, 100) + ";");
            text.append("busy " + number(0, 300) + " to " + number(300, 719) + " " + number(0, 100) + ";cushion " + number(0, 99) + ";");
            for (int i = 0; i < 2; i++) {
                text.append("harm " + number(0, 100) + " if " + one(2) + ";");
            }
            text.append("shut if " + one(2) + " and " + one(2) + " and minute > " + number(0, 719) + ";");
            split(text.toString(), feeds);
            return text.length();
        }

        String law() {
            int rules = random.nextInt(12) == 0 ? 38 + random.nextInt(5) : random.nextInt(14);
            StringBuilder text = new StringBuilder();
            for (int i = 0; i < rules && text.length() < 800; i++) {
                text.append(rules > 30 ? (random.nextBoolean() ? "rain 5" : "busy 1 to 700 90") : rule()).append(random.nextInt(5) == 0 ? gap() : "").append(';');
            }
            if (random.nextInt(4) == 0 && text.length() > 0) {
                spoil(text);
            }
            if (text.length() > 900) {
                text.setLength(900);
            }
            return text.toString();
        }

        void spoil(StringBuilder text) {
            int at = random.nextInt(text.length());
            String signs = "; ()<>=0719axz#\tAnot";
            char sign = signs.charAt(random.nextInt(signs.length()));
            switch (random.nextInt(4)) {
                case 0: text.deleteCharAt(at); break;
                case 1: text.insert(at, sign); break;
                case 2: text.setLength(at); break;
                default: text.setCharAt(at, random.nextInt(5) == 0 ? (char) (128 + random.nextInt(128)) : sign); break;
            }
        }

        String rule() {
            String g = gap();
            switch (random.nextInt(11)) {
                case 0: case 1: return "price " + number(0, 3) + g + number(0, 999) + " each " + number(1, 240);
                case 2: {
                    int from = number(0, 719);
                    return "busy" + g + from + "to" + number(random.nextInt(20) == 0 ? 0 : from, 719) + g + number(0, 100);
                }
                case 3: return "deposit " + number(0, 3) + g + number(0, 999);
                case 4: return "late " + number(0, 999) + " each " + number(1, 240) + " grace " + number(0, 240);
                case 5: return "rain" + g + number(0, 100);
                case 6: return "right " + number(0, 2) + g + number(0, 1) + g + number(1, 240);
                case 7: return "cushion " + number(0, 999);
                case 8: return "harm " + number(0, 100) + (random.nextInt(3) == 0 ? "" : " if " + any(0));
                case 9: return "harm " + number(0, 100) + g + "if" + g + any(0);
                default: return "shut if " + any(0) + (random.nextInt(3) == 0 ? "" : " and minute > 600");
            }
        }

        String any(int depth) {
            StringBuilder text = new StringBuilder(all(depth));
            while (random.nextInt(3) == 0) {
                text.append(" or ").append(all(depth));
            }
            return text.toString();
        }

        String all(int depth) {
            StringBuilder text = new StringBuilder(one(depth));
            while (random.nextInt(3) == 0) {
                text.append(" and ").append(one(depth));
            }
            return text.toString();
        }

        String one(int depth) {
            int kind = random.nextInt(depth > 2 ? 12 : 5);
            if (random.nextInt(400) == 0) {
                int n = 6 + random.nextInt(4);
                return "(".repeat(n) + "day=1" + ")".repeat(n);
            }
            if (random.nextInt(400) == 0) {
                return "not ".repeat(6 + random.nextInt(4)) + "day=1";
            }
            if (kind == 0) {
                return "not " + one(depth + 1);
            }
            if (kind == 1) {
                return "(" + any(depth + 1) + ")";
            }
            String[] words = {"water", "rain", "day", "week", "minute", "out", "kind", "weed"};
            int[] most = {99, 1, 3, 6, 719, 4, 3, 999};
            int w = random.nextInt(8);
            return words[w] + "<>=".charAt(random.nextInt(3)) + number(0, most[w]);
        }
    }

    interface Test {
        boolean holds(Map<String, Integer> asked);
    }

    static final class Harm {
        int part;
        Test test;
    }

    static final class Fault extends RuntimeException {
        final int place;

        Fault(int place) {
            super(null, null, false, false);
            this.place = place;
        }
    }

    /** A LAW read by descent, with a tree of tests. */
    static final class ModelLaw {
        final int day;
        final String text;
        int at;
        final Map<String, Integer> values = new HashMap<>();
        final List<int[]> busy = new ArrayList<>();
        final List<Harm> harms = new ArrayList<>();
        final List<Test> shuts = new ArrayList<>();

        ModelLaw(String text, int day) {
            this.text = text;
            this.day = day;
            for (int rules = 0; true; rules++) {
                skip();
                if (at == text.length()) {
                    return;
                }
                if (rules == 40) {
                    throw new Fault(at);
                }
                rule();
                need(";");
            }
        }

        void skip() {
            while (at < text.length() && (text.charAt(at) == ' ' || text.charAt(at) == '\n')) {
                at++;
            }
        }

        String peek() {
            skip();
            if (at == text.length()) {
                return "";
            }
            String rest = text.substring(at);
            String word = rest.replaceFirst("(?s)^([a-z]+).*", "$1");
            if (word.matches("[a-z]+")) {
                return word;
            }
            String digits = rest.replaceFirst("(?s)^([0-9]+).*", "$1");
            return digits.matches("[0-9]+") ? digits : rest.substring(0, 1);
        }

        String next() {
            String token = peek();
            at += token.length();
            return token;
        }

        void need(String token) {
            if (!peek().equals(token)) {
                throw new Fault(at);
            }
            next();
        }

        int number(int low, int high) {
            String token = peek();
            if (!token.matches("[0-9]{1,3}") || Integer.parseInt(token) < low || Integer.parseInt(token) > high) {
                throw new Fault(at);
            }
            next();
            return Integer.parseInt(token);
        }

        void rule() {
            int start = at;
            switch (next()) {
                case "price": {
                    int k = number(0, 3);
                    values.put("price" + k, number(0, 999));
                    need("each");
                    values.put("each" + k, number(1, 240));
                    break;
                }
                case "busy": {
                    int from = number(0, 719);
                    need("to");
                    int to = number(from, 719);
                    busy.add(new int[] {from, to, number(0, 100)});
                    break;
                }
                case "deposit": values.put("deposit" + number(0, 3), number(0, 999)); break;
                case "late":
                    values.put("late", number(0, 999));
                    need("each");
                    values.put("lateeach", number(1, 240));
                    need("grace");
                    values.put("grace", number(0, 240));
                    break;
                case "rain": values.put("rain", number(0, 100)); break;
                case "right": values.put("right" + number(0, 9) + "," + number(0, 3), number(1, 240)); break;
                case "cushion": values.put("cushion", number(0, 999)); break;
                case "harm": {
                    Harm harm = new Harm();
                    harm.part = number(0, 100);
                    if (peek().equals("if")) {
                        next();
                        harm.test = any(0);
                    } else {
                        harm.test = asked -> true;
                    }
                    harms.add(harm);
                    break;
                }
                case "shut": need("if"); shuts.add(any(0)); break;
                default: throw new Fault(start);
            }
        }

        Test any(int open) {
            Test left = all(open);
            if (!peek().equals("or")) {
                return left;
            }
            next();
            Test right = any(open);
            return asked -> left.holds(asked) || right.holds(asked);
        }

        Test all(int open) {
            Test left = one(open);
            if (!peek().equals("and")) {
                return left;
            }
            next();
            Test right = all(open);
            return asked -> left.holds(asked) && right.holds(asked);
        }

        Test one(int open) {
            String token = peek();
            if (token.equals("not") || token.equals("(")) {
                if (open == 8) {
                    throw new Fault(at);
                }
                next();
                if (token.equals("not")) {
                    Test inner = one(open + 1);
                    return asked -> !inner.holds(asked);
                }
                Test inner = any(open + 1);
                need(")");
                return inner;
            }
            if (!token.matches("water|rain|day|week|minute|out|kind|weed")) {
                throw new Fault(at);
            }
            next();
            String sign = peek();
            if (!sign.matches("[<>=]")) {
                throw new Fault(at);
            }
            next();
            int n = number(0, 999);
            return asked -> sign.equals("<") ? asked.get(token) < n : sign.equals(">") ? asked.get(token) > n : asked.get(token) == n;
        }

        int value(String key, int without) {
            return values.getOrDefault(key, without);
        }
    }

    /** All that an IMAGE keeps. */
    static final class Stuff {
        int[] water = new int[100];
        List<int[]> spells = new ArrayList<>();
        int rate;
        TreeSet<Integer> cuts = new TreeSet<>();
        List<Integer> kinds = new ArrayList<>();
        List<int[]> hires = new ArrayList<>();
        List<int[]> tellings = new ArrayList<>();
        int early;
        int late;
        int[][] chances = new int[12][6];
        List<int[]> rolls = new ArrayList<>();
        List<int[]> guides = new ArrayList<>();
        List<int[]> parties = new ArrayList<>();
        int[][] paints = new int[20][4];
        List<Integer> loyals = new ArrayList<>();
        List<int[]> nests = new ArrayList<>();
        List<int[]> regattas = new ArrayList<>();

        static List<int[]> deep(List<int[]> rows) {
            List<int[]> copy = new ArrayList<>();
            for (int[] row : rows) {
                copy.add(row.clone());
            }
            return copy;
        }

        Stuff copy() {
            Stuff c = new Stuff();
            c.water = water.clone();
            c.spells = deep(spells);
            c.rate = rate;
            c.cuts = new TreeSet<>(cuts);
            c.kinds = new ArrayList<>(kinds);
            c.hires = deep(hires);
            c.tellings = deep(tellings);
            c.early = early;
            c.late = late;
            c.chances = deep(Arrays.asList(chances)).toArray(new int[0][]);
            c.rolls = deep(rolls);
            c.guides = deep(guides);
            c.parties = deep(parties);
            c.paints = deep(Arrays.asList(paints)).toArray(new int[0][]);
            c.loyals = new ArrayList<>(loyals);
            c.nests = deep(nests);
            c.regattas = deep(regattas);
            return c;
        }
    }

    /** The slow model. */
    static final class Model {
        static final int NONE = -1;
        static final int NO_COIN = -1000000;
        Stuff s = new Stuff();
        final List<Stuff> images = new ArrayList<>();
        final List<ModelLaw> laws = new ArrayList<>();
        final List<Integer> tape = new ArrayList<>();
        int faultPlace = NONE;
        final ModelLaw bare = new ModelLaw("", 0);

        Model() {
            Arrays.fill(s.water, 50);
        }

        static boolean in(int v, int low, int high) {
            return v >= low && v <= high;
        }

        String tapeText() {
            StringBuilder text = new StringBuilder();
            for (int b : tape) {
                text.append((char) b);
            }
            return text.toString();
        }

        int feed(int[] f) {
            if (tape.size() + 20 > 900) {
                return NONE;
            }
            for (int v : f) {
                for (int shift = 24; shift >= 0; shift -= 8) {
                    tape.add(v >>> shift & 255);
                }
            }
            return tape.size();
        }

        int law(int n, int day) {
            if (n < 0 || n > tape.size() || !in(day, 0, 99)) {
                return -2;
            }
            if (laws.size() == 5) {
                return -3;
            }
            String text = tapeText().substring(0, n);
            tape.clear();
            faultPlace = NONE;
            try {
                laws.add(new ModelLaw(text, day));
            } catch (Fault fault) {
                faultPlace = fault.place;
                return NONE;
            }
            return laws.size() - 1;
        }

        int lawNumber(int day) {
            for (int d = day; d >= 0; d--) {
                for (int i = laws.size() - 1; i >= 0; i--) {
                    if (laws.get(i).day == d) {
                        return i;
                    }
                }
            }
            return NONE;
        }

        ModelLaw lawOf(int day) {
            int number = lawNumber(day);
            return number == NONE ? bare : laws.get(number);
        }

        int rule(int day, int what) {
            if (!in(day, 0, 99)) {
                return NONE;
            }
            Map<Integer, Integer> all = new HashMap<>();
            ModelLaw law = lawOf(day);
            all.put(0, lawNumber(day));
            for (int k = 0; k < 4; k++) {
                all.put(10 + k, law.value("price" + k, 0));
                all.put(20 + k, law.value("each" + k, 60));
                all.put(30 + k, law.value("deposit" + k, 0));
                for (int w = 0; w < 10; w++) {
                    all.put(100 + 10 * w + k, law.value("right" + w + "," + k, 0));
                }
            }
            all.put(40, law.value("late", 0));
            all.put(41, law.value("lateeach", 60));
            all.put(42, law.value("grace", 0));
            all.put(43, law.value("rain", 0));
            all.put(44, law.value("cushion", 0));
            return all.getOrDefault(what, NONE);
        }

        boolean water(int day, int v) {
            boolean so = in(day, 0, 99) && in(v, 0, 99);
            if (so) {
                s.water[day] = v;
            }
            return so;
        }

        int rain(int day, int from, int to) {
            if (!in(day, 0, 99) || !in(from, 0, 719) || !in(to, from, 719) || s.spells.size() == 40) {
                return NONE;
            }
            s.spells.add(new int[] {day, from, to});
            return s.spells.size();
        }

        int boat(int kind) {
            if (!in(kind, 0, 3) || s.kinds.size() == 20) {
                return NONE;
            }
            s.kinds.add(kind);
            return s.kinds.size() - 1;
        }

        boolean isBoat(int boat) {
            return in(boat, 0, s.kinds.size() - 1);
        }

        boolean isHire(int hire) {
            return in(hire, 0, s.hires.size() - 1);
        }

        boolean isTelling(int telling) {
            return in(telling, 0, s.tellings.size());
        }

        // told, back, swamp, taken, brought
        int[] asKnown(int hire, int telling) {
            int[] known = {0, NONE, 0, 0, 0};
            for (int t = telling; t >= 1; t--) {
                int[] told = s.tellings.get(t - 1);
                if (told[1] == hire && told[0] == 'o') {
                    known[0] = 1;
                }
            }
            for (int t = telling; t >= 1; t--) {
                int[] told = s.tellings.get(t - 1);
                if (told[1] == hire && told[0] == 'b') {
                    known[1] = told[2];
                    break;
                }
            }
            for (int t = telling; t >= 1; t--) {
                int[] told = s.tellings.get(t - 1);
                if (told[1] == hire && told[0] == 's') {
                    known[2] = told[2];
                    break;
                }
            }
            for (int t = telling; t >= 1; t--) {
                int[] told = s.tellings.get(t - 1);
                if (told[1] == hire && told[0] == 'c') {
                    known[3] = told[2];
                    known[4] = told[3];
                    break;
                }
            }
            return known;
        }

        int[][] allKnown(int telling) {
            int[][] all = new int[s.hires.size()][];
            for (int h = 0; h < all.length; h++) {
                all[h] = asKnown(h, telling);
            }
            return all;
        }

        int outBits(int moment, int[][] known) {
            int bits = 0;
            for (int h = 0; h < known.length; h++) {
                boolean gone = known[h][0] == 1 && s.hires.get(h)[2] <= moment;
                boolean back = known[h][1] != NONE && known[h][1] <= moment;
                if (gone && !back) {
                    bits |= 1 << s.hires.get(h)[0];
                }
            }
            return bits;
        }

        boolean rainsAt(int day, int minute) {
            for (int[] spell : s.spells) {
                if (spell[0] == day && spell[1] <= minute && minute <= spell[2]) {
                    return true;
                }
            }
            return false;
        }

        int weedOf(int day) {
            Integer last = s.cuts.floor(day);
            return Math.min(999, s.rate * (day - (last == null ? 0 : last)));
        }

        Map<String, Integer> asked(int boat, int moment, int[][] known) {
            Map<String, Integer> asked = new HashMap<>();
            int day = moment / 720;
            asked.put("water", s.water[day]);
            asked.put("rain", rainsAt(day, moment % 720) ? 1 : 0);
            asked.put("day", day);
            asked.put("week", day % 7);
            asked.put("minute", moment % 720);
            asked.put("out", Integer.bitCount(outBits(moment, known)));
            asked.put("kind", s.kinds.get(boat));
            asked.put("weed", weedOf(day));
            return asked;
        }

        int free(int boat, int moment) {
            if (!isBoat(boat) || !in(moment, 0, 71999)) {
                return NONE;
            }
            int[][] known = allKnown(s.tellings.size());
            for (int h = 0; h < known.length; h++) {
                if (s.hires.get(h)[0] == boat && (known[h][1] == NONE || known[h][1] > moment)) {
                    return 0;
                }
            }
            for (Test shut : lawOf(moment / 720).shuts) {
                if (shut.holds(asked(boat, moment, known))) {
                    return 0;
                }
            }
            return 1;
        }

        int tell(int... told) {
            if (s.tellings.size() == 400) {
                return NONE;
            }
            s.tellings.add(told);
            return s.tellings.size();
        }

        int out(int boat, int who, int moment, int booked) {
            if (free(boat, moment) != 1 || !in(who, 0, 9) || !in(booked, 1, 720) || moment % 720 + booked > 720) {
                return NONE;
            }
            if (s.hires.size() == 120 || s.tellings.size() == 400) {
                return NONE;
            }
            int hire = s.hires.size();
            s.hires.add(new int[] {boat, who, moment, booked, tell('o', hire), 0, 0});
            return hire;
        }

        boolean endsSo(int hire, int moment) {
            return isHire(hire) && in(moment, 0, 71999) && moment >= s.hires.get(hire)[2]
                && moment / 720 == s.hires.get(hire)[2] / 720;
        }

        int back(int hire, int moment) {
            if (!endsSo(hire, moment) || asKnown(hire, s.tellings.size())[1] != NONE) {
                return NONE;
            }
            return tell('b', hire, moment);
        }

        int mend(int hire, int moment) {
            if (!endsSo(hire, moment) || asKnown(hire, s.tellings.size())[1] == NONE) {
                return NONE;
            }
            for (int h = hire + 1; h < s.hires.size(); h++) {
                if (s.hires.get(h)[0] == s.hires.get(hire)[0] && moment > s.hires.get(h)[2]) {
                    return NONE;
                }
            }
            return tell('b', hire, moment);
        }

        int swamp(int hire, int coin) {
            return isHire(hire) && in(coin, 0, 9999) ? tell('s', hire, coin) : NONE;
        }

        int cushions(int hire, int taken, int brought) {
            return isHire(hire) && in(taken, 0, 9) && in(brought, 0, 9) ? tell('c', hire, taken, brought) : NONE;
        }

        boolean weed(int rate) {
            if (!in(rate, 0, 99)) {
                return false;
            }
            s.rate = rate;
            return true;
        }

        boolean cut(int day) {
            return in(day, 0, 99) && s.cuts.add(day);
        }

        int hire(int hire, int what) {
            return isHire(hire) && in(what, 0, 6) ? s.hires.get(hire)[what] : NONE;
        }

        int known(int hire, int telling) {
            if (!isHire(hire) || !isTelling(telling)) {
                return -2;
            }
            int[] known = asKnown(hire, telling);
            return known[0] == 0 ? -2 : known[1];
        }

        int dayOf(int hire) {
            return s.hires.get(hire)[2] / 720;
        }

        int freeMinutes(int hire, int[][] known) {
            int[] own = s.hires.get(hire);
            int kind = s.kinds.get(own[0]);
            List<Integer> order = new ArrayList<>();
            for (int h = 0; h < known.length; h++) {
                int[] other = s.hires.get(h);
                if (known[h][0] == 1 && known[h][1] != NONE && other[1] == own[1] && dayOf(h) == dayOf(hire) && s.kinds.get(other[0]) == kind) {
                    order.add(h);
                }
            }
            order.sort(Comparator.<Integer>comparingInt(h -> s.hires.get(h)[2]).thenComparingInt(h -> h));
            int left = lawOf(dayOf(hire)).value("right" + own[1] + "," + kind, 0);
            for (int h : order) {
                int used = Math.min(left, known[h][1] - s.hires.get(h)[2]);
                if (h == hire) {
                    return used;
                }
                left -= used;
            }
            throw new IllegalStateException();
        }

        static int begun(int span, int each) {
            return (span + each - 1) / each;
        }

        int price(int hire, int minutes) {
            ModelLaw law = lawOf(dayOf(hire));
            int kind = s.kinds.get(s.hires.get(hire)[0]);
            int base = begun(minutes, law.value("each" + kind, 60)) * law.value("price" + kind, 0);
            int parts = 0;
            for (int[] busy : law.busy) {
                if (in(s.hires.get(hire)[2] % 720, busy[0], busy[1])) {
                    parts += busy[2];
                }
            }
            return base + (int) ((long) base * Math.min(900, parts) / 100);
        }

        int wet(int hire, int price, int[][] known, int moreFrom) {
            int out = s.hires.get(hire)[2];
            int back = known[hire][1];
            if (back == out) {
                return 0;
            }
            long wet = 0;
            for (int moment = out; moment < back; moment++) {
                int minute = moment % 720;
                boolean more = moreFrom != NONE && minute >= moreFrom && minute < moreFrom + 60;
                wet += more || rainsAt(moment / 720, minute) ? 1 : 0;
            }
            return (int) (price * (long) lawOf(dayOf(hire)).value("rain", 0) * wet / (100L * (back - out)));
        }

        int[] billOf(int hire, int[][] known) {
            int[] own = s.hires.get(hire);
            int day = own[2] / 720;
            ModelLaw law = lawOf(day);
            int kind = s.kinds.get(own[0]);
            int[] bill = new int[9];
            bill[0] = known[hire][1] - own[2];
            bill[1] = freeMinutes(hire, known);
            bill[2] = price(hire, bill[0] - bill[1]);
            if (bill[0] > own[3] + law.value("grace", 0)) {
                bill[3] = begun(bill[0] - own[3], law.value("lateeach", 60)) * law.value("late", 0);
            }
            bill[4] = wet(hire, bill[2], known, NONE);
            int part = 100;
            for (int i = law.harms.size() - 1; i >= 0; i--) {
                if (law.harms.get(i).test.holds(asked(own[0], own[2], known))) {
                    part = law.harms.get(i).part;
                }
            }
            bill[5] = known[hire][2] * part / 100;
            bill[8] = law.value("cushion", 0) * Math.max(0, known[hire][3] - known[hire][4]);
            bill[6] = bill[2] + bill[3] + bill[5] + bill[8] - bill[4];
            int deposit = law.value("deposit" + kind, 0);
            bill[7] = deposit - Math.min(deposit, bill[3] + bill[5] + bill[8]);
            return bill;
        }

        int bill(int hire, int telling, int what) {
            if (known(hire, telling) < 0 || !in(what, 0, 8)) {
                return NO_COIN;
            }
            return billOf(hire, allKnown(telling))[what];
        }

        int outs(int moment, int telling) {
            return in(moment, 0, 71999) && isTelling(telling) ? outBits(moment, allKnown(telling)) : NONE;
        }

        int takings(int day, int telling) {
            if (!in(day, 0, 99) || !isTelling(telling)) {
                return NO_COIN;
            }
            int[][] known = allKnown(telling);
            int sum = 0;
            for (int h = 0; h < known.length; h++) {
                sum += known[h][1] != NONE && dayOf(h) == day ? billOf(h, known)[6] : 0;
            }
            return sum;
        }

        int differ(int one, int other, int k) {
            if (!isTelling(one) || !isTelling(other) || k < NONE) {
                return NONE;
            }
            List<Integer> found = new ArrayList<>();
            for (int h = 0; h < s.hires.size(); h++) {
                if (!Arrays.equals(asKnown(h, one), asKnown(h, other))) {
                    found.add(h);
                }
            }
            return k == NONE ? found.size() : k < found.size() ? found.get(k) : NONE;
        }

        int cost(int who, int telling) {
            if (!in(who, 0, 9) || !isTelling(telling)) {
                return NONE;
            }
            int[][] known = allKnown(telling);
            int sum = 0;
            for (int h = 0; h < known.length; h++) {
                if (known[h][1] != NONE && s.hires.get(h)[1] == who) {
                    int minutes = known[h][1] - s.hires.get(h)[2];
                    sum += price(h, minutes) - price(h, minutes - freeMinutes(h, known));
                }
            }
            return sum;
        }

        int worst(int day, int telling, int what) {
            if (!in(day, 0, 99) || !isTelling(telling) || !in(what, 0, 1)) {
                return NONE;
            }
            int[][] known = allKnown(telling);
            int best = 0;
            int most = NONE;
            int[] prices = new int[known.length];
            for (int h = 0; h < known.length; h++) {
                prices[h] = known[h][1] == NONE || dayOf(h) != day ? 0 : billOf(h, known)[2];
            }
            for (int from = 0; from <= 660; from++) {
                int sum = 0;
                for (int h = 0; h < known.length; h++) {
                    sum += prices[h] == 0 ? 0 : wet(h, prices[h], known, from);
                }
                if (sum > most) {
                    most = sum;
                    best = from;
                }
            }
            return what == 0 ? best : most;
        }

        boolean hasOut(int who, int moment, int[][] known) {
            for (int h = 0; h < known.length; h++) {
                boolean gone = known[h][0] == 1 && s.hires.get(h)[2] <= moment && s.hires.get(h)[1] == who;
                if (gone && (known[h][1] == NONE || known[h][1] > moment)) {
                    return true;
                }
            }
            return false;
        }

        int together(int one, int other, int day, int telling, int what) {
            if (!in(one, 0, 9) || !in(other, 0, 9) || one == other || !in(day, 0, 99) || !isTelling(telling) || !in(what, 0, 1)) {
                return NONE;
            }
            int[][] known = allKnown(telling);
            int sum = 0;
            int first = NONE;
            for (int m = 719; m >= 0; m--) {
                if (hasOut(one, day * 720 + m, known) && hasOut(other, day * 720 + m, known)) {
                    first = m;
                    sum++;
                }
            }
            return what == 0 ? sum : first;
        }

        int worn(int boat, int telling, int what) {
            if (!isBoat(boat) || !isTelling(telling) || !in(what, 0, 1)) {
                return NONE;
            }
            int[][] known = allKnown(telling);
            int sum = 0;
            for (int h = 0; h < known.length; h++) {
                if (s.hires.get(h)[0] == boat && known[h][1] != NONE) {
                    sum += what == 0 ? known[h][1] - s.hires.get(h)[2] : 1;
                }
            }
            return sum;
        }

        int old(int k, int telling) {
            if (!isBoat(k) || !isTelling(telling)) {
                return NONE;
            }
            List<Integer> order = new ArrayList<>();
            int[] minutes = new int[s.kinds.size()];
            for (int b = 0; b < s.kinds.size(); b++) {
                order.add(b);
                minutes[b] = worn(b, telling, 0);
            }
            order.sort(Comparator.<Integer>comparingInt(b -> -minutes[b]).thenComparingInt(b -> b));
            return order.get(k);
        }

        boolean doubt(int early, int late) {
            if (!in(early, 0, 240) || !in(late, 0, 240)) {
                return false;
            }
            s.early = early;
            s.late = late;
            return true;
        }

        int queue(int kind, int k, int moment, int what) {
            if (!in(kind, 0, 3) || k < 1 || !in(moment, 0, 71999) || !in(what, 0, 1)) {
                return NONE;
            }
            int[][] known = allKnown(s.tellings.size());
            List<Integer> waits = new ArrayList<>();
            for (int b = 0; b < s.kinds.size(); b++) {
                if (s.kinds.get(b) != kind) {
                    continue;
                }
                int there = moment;
                for (int h = 0; h < known.length; h++) {
                    int[] own = s.hires.get(h);
                    if (own[0] == b && own[2] <= moment && (known[h][1] == NONE || known[h][1] > moment)) {
                        there = Math.max(moment, own[2] + own[3] + (what == 0 ? -s.early : s.late));
                    }
                }
                waits.add(there - moment);
            }
            waits.sort(null);
            return k <= waits.size() ? waits.get(k - 1) : NONE;
        }

        int missing(int hour, int n) {
            int left = 10;
            if (in(hour, 0, 11)) {
                for (int p = 0; p < 6; p++) {
                    left -= p == n ? 0 : s.chances[hour][p];
                }
            }
            return Math.max(left, 0);
        }

        boolean chance(int hour, int n, int parts) {
            if (!in(hour, 0, 11) || !in(n, 0, 5) || !in(parts, 0, 10)) {
                return false;
            }
            s.chances[hour][n] = parts;
            return true;
        }

        boolean whole() {
            for (int[] hour : s.chances) {
                if (Arrays.stream(hour).sum() != 10) {
                    return false;
                }
            }
            return true;
        }

        // States: boats that come again in each of the next hours.
        BigInteger served(int k, int n) {
            Map<String, BigInteger> weights = new HashMap<>();
            weights.put("", BigInteger.ONE);
            BigInteger sum = BigInteger.ZERO;
            for (int hour = 0; hour < 12; hour++) {
                Map<String, BigInteger> next = new HashMap<>();
                for (Map.Entry<String, BigInteger> entry : weights.entrySet()) {
                    String takenAgo = entry.getKey();
                    int there = k;
                    for (int i = 0; i < takenAgo.length() && i < n - 1; i++) {
                        there -= takenAgo.charAt(i) - '0';
                    }
                    for (int p = 0; p < 6; p++) {
                        int taken = Math.min(there, p);
                        BigInteger weight = entry.getValue().multiply(BigInteger.valueOf(s.chances[hour][p]));
                        String key = (taken + takenAgo).substring(0, Math.min(2, takenAgo.length() + 1));
                        next.merge(key, weight, BigInteger::add);
                        sum = sum.add(weight.multiply(BigInteger.valueOf(taken)).multiply(BigInteger.TEN.pow(11 - hour)));
                    }
                }
                weights = next;
            }
            return sum;
        }

        BigInteger wanted() {
            long sum = 0;
            for (int[] hour : s.chances) {
                for (int p = 0; p < 6; p++) {
                    sum += (long) p * hour[p];
                }
            }
            return BigInteger.valueOf(sum).multiply(BigInteger.TEN.pow(11));
        }

        long keep(int k, int n, int what) {
            if (!in(k, 0, 12) || !in(n, 1, 3) || !in(what, 0, 3) || !whole()) {
                return NONE;
            }
            BigInteger upper = what < 2 ? served(k, n) : wanted();
            BigInteger lower = BigInteger.TEN.pow(12);
            BigInteger divisor = upper.gcd(lower);
            return (what % 2 == 0 ? upper : lower).divide(divisor).longValueExact();
        }

        int least(int n, int part) {
            if (!in(n, 1, 3) || !in(part, 0, 100) || !whole()) {
                return NONE;
            }
            for (int k = 0; k <= 12; k++) {
                BigInteger have = served(k, n).multiply(BigInteger.valueOf(100));
                if (have.compareTo(wanted().multiply(BigInteger.valueOf(part))) >= 0) {
                    return k;
                }
            }
            return NONE;
        }

        int protect(int k, int one, int other, int what) {
            if (!in(k, 0, 12) || !in(one, 0, 999) || !in(other, 0, 999) || !in(what, 0, 1) || !whole()) {
                return NONE;
            }
            int best = 0;
            int most = NONE;
            for (int y = k; y >= 0; y--) {
                int mean = 0;
                for (int p = 0; p < 6; p++) {
                    for (int q = 0; q < 6; q++) {
                        int boats = k;
                        int coin = 0;
                        for (int i = 0; i < p && boats > y; i++, boats--) {
                            coin += one;
                        }
                        for (int i = 0; i < q && boats > 0; i++, boats--) {
                            coin += other;
                        }
                        mean += coin * s.chances[0][p] * s.chances[1][q];
                    }
                }
                if (mean >= most) {
                    most = mean;
                    best = y;
                }
            }
            return what == 0 ? best : most;
        }

        int roll(int minute, int takes) {
            if (!in(minute, 0, 719) || !in(takes, 1, 99) || s.rolls.size() == 7) {
                return NONE;
            }
            s.rolls.add(new int[] {minute, takes});
            return s.rolls.size();
        }

        void orders(List<Integer> taken, List<List<Integer>> all) {
            if (taken.size() == s.rolls.size()) {
                all.add(new ArrayList<>(taken));
            }
            for (int b = 0; b < s.rolls.size(); b++) {
                if (!taken.contains(b)) {
                    taken.add(b);
                    orders(taken, all);
                    taken.remove(taken.size() - 1);
                }
            }
        }

        int rolled(int what) {
            if (what != 0 && !(what >= 10 && what - 10 < s.rolls.size())) {
                return NONE;
            }
            List<List<Integer>> all = new ArrayList<>();
            orders(new ArrayList<>(), all);
            int least = Integer.MAX_VALUE;
            List<Integer> best = null;
            for (List<Integer> order : all) {
                int time = 0;
                int sum = 0;
                for (int b : order) {
                    time = Math.max(time, s.rolls.get(b)[0]);
                    sum += time - s.rolls.get(b)[0];
                    time += s.rolls.get(b)[1];
                }
                if (sum < least) {
                    least = sum;
                    best = order;
                }
            }
            return what == 0 ? least : best.get(what - 10);
        }

        int guide(int songs) {
            if (!in(songs, 0, 255) || s.guides.size() == 8) {
                return NONE;
            }
            s.guides.add(new int[] {songs, 0});
            return s.guides.size() - 1;
        }

        int party(int songs, int coin) {
            if (!in(songs, 0, 255) || !in(coin, 0, 999) || s.parties.size() == 8) {
                return NONE;
            }
            s.parties.add(new int[] {songs, coin});
            return s.parties.size() - 1;
        }

        int[] bestGuides;
        int[] bestKey;

        // All ways are looked at; a key orders them: PARTIES, coin, then the rank of each PARTY's guide.
        void assign(int party, int[] guideOf, int[] rank) {
            if (party == s.parties.size()) {
                int[] key = new int[2 + party];
                for (int p = 0; p < party; p++) {
                    key[0] -= guideOf[p] == NONE ? 0 : 1;
                    key[1] -= guideOf[p] == NONE ? 0 : s.parties.get(p)[1];
                    key[2 + p] = guideOf[p] == NONE ? 99 : rank[guideOf[p]];
                }
                if (bestKey == null || Arrays.compare(key, bestKey) < 0) {
                    bestKey = key;
                    bestGuides = guideOf.clone();
                }
                return;
            }
            for (int g = -1; g < s.guides.size(); g++) {
                boolean used = false;
                for (int p = 0; p < party; p++) {
                    used |= g >= 0 && guideOf[p] == g;
                }
                if (!used && (g < 0 || (s.guides.get(g)[0] | s.parties.get(party)[0]) == s.guides.get(g)[0])) {
                    guideOf[party] = g;
                    assign(party + 1, guideOf, rank);
                }
            }
        }

        boolean solveGuides() {
            long ways = 1;
            for (int[] party : s.parties) {
                int able = 1;
                for (int[] guide : s.guides) {
                    able += (guide[0] | party[0]) == guide[0] ? 1 : 0;
                }
                ways *= able;
            }
            List<Integer> order = new ArrayList<>();
            for (int g = 0; g < s.guides.size(); g++) {
                order.add(g);
            }
            order.sort(Comparator.<Integer>comparingInt(g -> s.guides.get(g)[1]).thenComparingInt(g -> g));
            int[] rank = new int[s.guides.size()];
            for (int i = 0; i < rank.length; i++) {
                rank[order.get(i)] = i;
            }
            bestKey = null;
            assign(0, new int[s.parties.size()], rank);
            return ways > 0;
        }

        int guided(int what) {
            if (!in(what, 0, 1) && !(what >= 10 && what - 10 < s.parties.size())) {
                return NONE;
            }
            solveGuides();
            return what < 2 ? -bestKey[what] : bestGuides[what - 10];
        }

        int pay(int part) {
            if (!in(part, 0, 100)) {
                return NONE;
            }
            solveGuides();
            for (int p = 0; p < s.parties.size(); p++) {
                if (bestGuides[p] != NONE) {
                    s.guides.get(bestGuides[p])[1] += s.parties.get(p)[1] * part / 100;
                }
            }
            s.parties.clear();
            return -bestKey[0];
        }

        int earned(int guide) {
            if (guide == NONE) {
                int most = s.guides.stream().mapToInt(g -> g[1]).max().orElse(0);
                return most - s.guides.stream().mapToInt(g -> g[1]).min().orElse(0);
            }
            return in(guide, 0, s.guides.size() - 1) ? s.guides.get(guide)[1] : NONE;
        }

        boolean pass(int hire, int reaches, boolean clean) {
            if (!isHire(hire) || !in(reaches, 0, 65535)) {
                return false;
            }
            s.hires.get(hire)[5] = reaches;
            s.hires.get(hire)[6] = clean ? 1 : 0;
            return true;
        }

        int pole(int hire) {
            if (!isHire(hire)) {
                return NONE;
            }
            int bits = 0;
            for (int reach = 0; reach < 16; reach++) {
                boolean can = (s.hires.get(hire)[5] >> reach & 1) == 1;
                for (int[] other : s.hires) {
                    can &= !(other[2] > s.hires.get(hire)[2] && other[6] == 1 && (other[5] >> reach & 1) == 1);
                }
                bits |= can ? 1 << reach : 0;
            }
            return bits;
        }

        List<Integer> dry() {
            List<Integer> dry = new ArrayList<>();
            for (int b = 0; b < 20; b++) {
                if (s.paints[b][0] > 0) {
                    dry.add(b);
                }
            }
            return dry;
        }

        boolean paint(int boat, int weeks, int coin) {
            if (!isBoat(boat) || !in(weeks, 0, 9) || !in(coin, 0, 99)) {
                return false;
            }
            if (weeks > 0 && s.paints[boat][0] == 0 && dry().size() == 10) {
                return false;
            }
            s.paints[boat][0] = weeks;
            s.paints[boat][1] = coin;
            return true;
        }

        // The least coin of each set on one berth, by the one that is done last.
        int[] berth(List<Integer> dry) {
            int[] least = new int[1 << dry.size()];
            for (int set = 1; set < least.length; set++) {
                int weeks = 0;
                for (int i = 0; i < dry.size(); i++) {
                    weeks += (set >> i & 1) == 1 ? s.paints[dry.get(i)][0] : 0;
                }
                least[set] = Integer.MAX_VALUE;
                for (int i = 0; i < dry.size(); i++) {
                    if ((set >> i & 1) == 1) {
                        least[set] = Math.min(least[set], least[set & ~(1 << i)] + weeks * s.paints[dry.get(i)][1]);
                    }
                }
            }
            return least;
        }

        static int bits(int set, List<Integer> dry) {
            int bits = 0;
            for (int i = 0; i < dry.size(); i++) {
                bits |= (set >> i & 1) == 1 ? 1 << dry.get(i) : 0;
            }
            return bits;
        }

        int painted(int berths, int what) {
            if (!in(berths, 1, 2) || !in(what, 0, 1)) {
                return NONE;
            }
            List<Integer> dry = dry();
            int[] least = berth(dry);
            int all = least.length - 1;
            int best = 0;
            for (int set = all; set >= 0 && berths == 2; set--) {
                int now = least[best] + least[all & ~best];
                int other = least[set] + least[all & ~set];
                boolean better = other < now || other == now && bits(set, dry) < bits(best, dry);
                best = better ? set : best;
            }
            return what == 0 ? least[best] + least[all & ~best] : bits(best, dry);
        }

        boolean fail(int boat, int part, int coin) {
            if (!isBoat(boat) || !in(part, 0, 100) || !in(coin, 0, 999)) {
                return false;
            }
            s.paints[boat][2] = part;
            s.paints[boat][3] = coin;
            return true;
        }

        int renew(int weeks, int what) {
            if (!in(weeks, 0, 90) || !in(what, 0, 1)) {
                return NONE;
            }
            List<Integer> dry = dry();
            int most = NONE;
            int best = 0;
            for (int set = (1 << dry.size()) - 1; set >= 0; set--) {
                int need = 0;
                int saved = 0;
                for (int i = 0; i < dry.size(); i++) {
                    if ((set >> i & 1) == 1) {
                        int[] p = s.paints[dry.get(i)];
                        need += p[0];
                        saved += p[2] * p[3];
                    }
                }
                if (need <= weeks && (saved > most || saved == most && bits(set, dry) < best)) {
                    most = saved;
                    best = bits(set, dry);
                }
            }
            return what == 0 ? most : best;
        }

        int loyal(int coin) {
            if (!in(coin, 0, 999) || s.loyals.size() == 12) {
                return NONE;
            }
            s.loyals.add(coin);
            return s.loyals.size();
        }

        int tout(int rival, int fine, int what) {
            if (!in(rival, 0, 999) || !in(fine, 0, 9999) || !in(what, 0, 3)) {
                return NO_COIN;
            }
            int[] best = null;
            for (int price = 999; price >= 0; price--) {
                int go = 0;
                for (int coin : s.loyals) {
                    go += price > rival + coin ? 1 : 0;
                }
                int income = price * (s.loyals.size() - go);
                if (best == null || income >= best[1]) {
                    best = new int[] {price, income, go, go == 0 ? 0 : rival * go - fine};
                }
            }
            return best[what];
        }

        int nest(int reach, int from, int to) {
            if (!in(reach, 0, 15) || !in(from, 0, 99) || !in(to, from, 99) || s.nests.size() == 20) {
                return NONE;
            }
            s.nests.add(new int[] {reach, from, to});
            return s.nests.size();
        }

        int regatta(int day, int from, int to, int reaches) {
            if (!in(day, 0, 99) || !in(from, 0, 719) || !in(to, from, 719) || !in(reaches, 0, 65535) || s.regattas.size() == 10) {
                return NONE;
            }
            s.regattas.add(new int[] {day, from, to, reaches});
            return s.regattas.size();
        }

        int barred(int hire, int telling) {
            int back = known(hire, telling);
            if (back == -2) {
                return NONE;
            }
            int[] own = s.hires.get(hire);
            int day = own[2] / 720;
            int bits = 0;
            for (int[] nest : s.nests) {
                bits |= in(day, nest[1], nest[2]) ? 1 << nest[0] : 0;
            }
            for (int moment = own[2]; moment < (back == NONE ? day * 720 + 720 : back); moment++) {
                for (int[] race : s.regattas) {
                    bits |= race[0] == day && in(moment % 720, race[1], race[2]) ? race[3] : 0;
                }
            }
            return bits & own[5];
        }

        int image() {
            if (images.size() == 3) {
                return NONE;
            }
            images.add(s.copy());
            return images.size() - 1;
        }

        boolean restore(int image) {
            if (!in(image, 0, images.size() - 1)) {
                return false;
            }
            s = images.get(image).copy();
            return true;
        }

        int count(int what) {
            if (in(what, 200, 299)) {
                return weedOf(what - 200);
            }
            int[] all = {laws.size(), s.kinds.size(), s.hires.size(), s.tellings.size(), s.spells.size(), s.rolls.size(),
                s.guides.size(), s.parties.size(), tape.size(), whole() ? 1 : 0, s.loyals.size(), s.nests.size(),
                s.regattas.size(), images.size()};
            return in(what, 0, 13) ? all[what] : NONE;
        }
    }
}
