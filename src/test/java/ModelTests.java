import java.util.ArrayDeque;
import java.util.ArrayList;
import java.util.Arrays;
import java.util.Deque;
import java.util.HashMap;
import java.util.List;
import java.util.Map;
import java.util.Random;

/** Drawn runs of calls on BoroughBeam, each answer held against a second model that is written as plainly as can be. */
public final class ModelTests {
    private static final int RUNS = 1000;
    private static final int CALLS = 300;
    private static int wrong = 0;

    public static void main(String[] args) {
        int runs = args.length > 0 ? Integer.parseInt(args[0]) : RUNS;
        int first = args.length > 1 ? Integer.parseInt(args[1]) : 0;
        int[] called = new int[Player.NAMES.length];
        for (int run = first; run < first + runs && wrong < 20; run++) {
            new Player(run, called).play();
            new Player(run, called).readLaws();
        }
        for (int i = 0; i < called.length; i++) {
            if (called[i] == 0) {
                wrong++;
                System.out.println(Player.NAMES[i] + " was never called");
            }
        }
        System.out.println(wrong == 0 ? "all answers are as in the model" : wrong + " answers are not as in the model");
        if (wrong != 0) {
            System.exit(1);
        }
    }

    // ---------------------------------------------------------------- drawn runs

    private static final class Player {
        static final String[] NAMES = {"person", "goal", "hand", "script", "feed", "end", "text", "fault", "by", "walk",
            "pair", "shovel", "hour", "played", "years", "undo", "of", "place", "is", "book", "foretold", "tip",
            "errands", "where", "paid", "stand", "cat", "quarrel", "orders", "order", "share", "slips", "halves",
            "level", "swap", "send", "said", "whose", "free", "lone", "heaviest", "travelled", "ledger", "image",
            "back", "about"};
        final int run;
        final int[] called;
        final Random random;
        final BoroughBeam beam = new BoroughBeam();
        final Model model = new Model();
        final List<String> log = new ArrayList<>();
        final boolean lateHours;
        final int crowd;

        Player(int run, int[] called) {
            this.run = run;
            this.called = called;
            random = new Random(run * 7919L + 13);
            lateHours = run % 7 == 3;
            crowd = random.nextInt(5);
        }

        void play() {
            for (int p = 0; p < crowd; p++) {
                int w = 1 + random.nextInt(9);
                int at = random.nextInt(3) == 0 ? random.nextInt(9) : 3 + random.nextInt(3);
                due("person(" + w + ", " + at + ")", beam.person(w, at), model.person(w, at));
            }
            if (lateHours) {
                due("play of many hours", manyHours(), 0);
            }
            for (int i = 0; i < CALLS && wrong < 20; i++) {
                int k = random.nextInt(NAMES.length);
                if (k >= 9 && k <= 14 && random.nextInt(3) == 0) {
                    k = 10 + random.nextInt(4);
                }
                called[k]++;
                call(NAMES[k]);
            }
        }

        /** Many texts, whole and broken, and what they say as laws. */
        void readLaws() {
            for (int p = 0; p < crowd; p++) {
                int w = 1 + random.nextInt(9);
                int at = random.nextInt(9);
                due("person(" + w + ", " + at + ")", beam.person(w, at), model.person(w, at));
            }
            int seed = random.nextInt(10000);
            due("years(" + seed + ", 40)", beam.years(seed, 40), model.years(seed, 40));
            for (int i = 0; i < 30 && wrong < 20; i++) {
                script();
                for (int t = 0; t < model.texts.size(); t++) {
                    due("by(" + t + ")", beam.by(t), model.by(t));
                    due("is(3)", beam.is(3), model.is(3));
                    for (int p = 0; p < crowd; p++) {
                        due("of(" + p + ", 3)", beam.of(p, 3), model.of(p, 3));
                    }
                }
                if (model.texts.size() == 4) {
                    due("back()", beam.back(), model.back());
                    break;
                }
            }
        }

        /** Brings both near the last hour (what 512 calls can do, no more is wanted here than agreement). */
        long manyHours() {
            long differ = 0;
            for (int i = 0; i < 170; i++) {
                differ += beam.hour(60) == model.hour(60) ? 0 : 1;
            }
            return differ;
        }

        void due(String call, long got, long want) {
            log.add(call + " = " + got);
            if (got != want) {
                wrong++;
                System.out.println("run " + run + ": " + call + " answered " + got + ", the model says " + want);
                if (wrong <= 2) {
                    log.forEach(System.out::println);
                }
            }
        }

        void due(String call, boolean got, boolean want) {
            due(call, got ? 1 : 0, want ? 1 : 0);
        }

        /** A number from low to high, seldom one beside them, seldom one far off. */
        int near(int low, int high) {
            int odd = random.nextInt(24);
            if (odd == 0) {
                return low - 1 - random.nextInt(2);
            }
            if (odd == 1) {
                return high + 1 + random.nextInt(2);
            }
            if (odd == 2) {
                int[] far = {Integer.MIN_VALUE, Integer.MAX_VALUE, -1, -2, 1 << 30, 255};
                return far[random.nextInt(far.length)];
            }
            return low + random.nextInt(high - low + 1);
        }

        int someone() {
            int n = model.w.size();
            return n == 0 ? near(0, 3) : near(0, n - 1);
        }

        void call(String name) {
            switch (name) {
                case "person": if (random.nextInt(4) == 0) { person(); } break;
                case "goal": { int p = someone(); int at = near(-1, 8); due("goal(" + p + ", " + at + ")", beam.goal(p, at), model.goal(p, at)); break; }
                case "hand": if (random.nextInt(2) == 0) { int w = near(1, 9); int g = random.nextBoolean() ? near(0, 3) : near(0, 99); due("hand(" + w + ", " + g + ")", beam.hand(w, g), model.hand(w, g)); } break;
                case "script": script(); break;
                case "feed": { int[] v = random.ints(5).toArray(); due("feed(" + Arrays.toString(v) + ")", beam.feed(v[0], v[1], v[2], v[3], v[4]), model.feed(v)); break; }
                case "end": { int n = random.nextInt(3) == 0 ? near(0, 300) : near(0, Math.max(0, model.tape.size())); due("end(" + n + ")", beam.end(n), model.end(n)); break; }
                case "text": if (random.nextInt(3) == 0) { due("text()", beam.text(), model.text()); } break;
                case "fault": { int k = near(0, 1); due("fault(" + k + ")", beam.fault(k), model.fault(k)); break; }
                case "by": { int k = near(-1, Math.max(0, model.texts.size() - 1)); due("by(" + k + ")", beam.by(k), model.by(k)); break; }
                case "walk": { int p = someone(); boolean r = random.nextBoolean(); due("walk(" + p + ", " + r + ")", beam.walk(p, r), model.walk(p, r)); break; }
                case "pair": { int p = someone(); int q = someone(); boolean r = random.nextBoolean(); boolean o = random.nextInt(3) == 0 ? r : !r; due("pair(" + p + ", " + r + ", " + q + ", " + o + ")", beam.pair(p, r, q, o), model.pair(p, r, q, o)); break; }
                case "shovel": { int at = near(0, 8); int n = random.nextBoolean() ? near(1, 2) : near(1, 9); due("shovel(" + at + ", " + n + ")", beam.shovel(at, n), model.shovel(at, n)); break; }
                case "hour": { int n = random.nextInt(3) == 0 ? near(1, 60) : near(1, 3); due("hour(" + n + ")", beam.hour(n), model.hour(n)); break; }
                case "played": { int k = near(0, Math.max(0, model.texts.size() - 1)); due("played(" + k + ")", beam.played(k), model.played(k)); break; }
                case "years": { int s = near(0, 9999); int n = near(1, 40); due("years(" + s + ", " + n + ")", beam.years(s, n), model.years(s, n)); break; }
                case "undo": { int times = random.nextInt(8) == 0 ? 35 : 1 + random.nextInt(3); for (int i = 0; i < times; i++) { due("undo()", beam.undo(), model.undo()); } break; }
                case "of": { int p = someone(); int k = near(0, 3); due("of(" + p + ", " + k + ")", beam.of(p, k), model.of(p, k)); break; }
                case "place": { int p = near(0, 8); int k = near(0, 2); due("place(" + p + ", " + k + ")", beam.place(p, k), model.place(p, k)); break; }
                case "is": { int k = near(0, 4); due("is(" + k + ")", beam.is(k), model.is(k)); break; }
                case "book": { int i = near(-1, Math.max(0, model.book.size() - 1)); int k = near(0, 3); due("book(" + i + ", " + k + ")", beam.book(i, k), model.book(i, k)); break; }
                case "foretold": { int n = near(1, 60); int p = someone(); due("foretold(" + n + ", " + p + ")", beam.foretold(n, p), model.foretold(n, p)); break; }
                case "tip": { int p = someone(); int at = near(0, 8); due("tip(" + p + ", " + at + ")", beam.tip(p, at), model.tip(p, at)); break; }
                case "errands": errands(); break;
                case "where": { boolean q = random.nextBoolean(); if (model.w.size() < 4 || random.nextInt(4) == 0) { due("where(" + q + ")", beam.where(q), model.where(q)); } break; }
                case "paid": { boolean q = random.nextBoolean(); due("paid(" + q + ")", beam.paid(q), model.paid(q)); break; }
                case "stand": { int h = near(0, 3); due("stand(" + h + ")", beam.stand(h), model.stand(h)); break; }
                case "cat": { int seen = random.nextInt(4) == 0 ? near(-400, 400) : model.tipNow() + random.nextInt(41) - 20; int k = near(0, 1); due("cat(" + seen + ", " + k + ")", beam.cat(seen, k), model.cat(seen, k)); break; }
                case "quarrel": { boolean q = random.nextBoolean(); due("quarrel(" + q + ")", beam.quarrel(q), model.quarrel(q)); break; }
                case "orders": due("orders()", beam.orders(), model.orders()); break;
                case "order": { int i = near(0, 3); due("order(" + i + ")", beam.order(i), model.order(i)); break; }
                case "share": { int p = someone(); boolean q = random.nextBoolean(); due("share(" + p + ", " + q + ")", beam.share(p, q), model.share(p, q)); break; }
                case "slips": { int n = near(1, 9); boolean q = random.nextBoolean(); due("slips(" + n + ", " + q + ")", beam.slips(n, q), model.slips(n, q)); break; }
                case "halves": { int k = near(0, 1); due("halves(" + k + ")", beam.halves(k), model.halves(k)); break; }
                case "level": { int i = near(-1, 9); due("level(" + i + ")", beam.level(i), model.level(i)); break; }
                case "swap": { boolean q = random.nextBoolean(); due("swap(" + q + ")", beam.swap(q), model.swap(q)); break; }
                case "send": { int k = near(1, 9); due("send(" + k + ")", beam.send(k), model.send(k)); break; }
                case "said": { int p = random.nextInt(6) == 0 ? -1 : someone(); int k = random.nextBoolean() && p >= 0 && p < model.w.size() ? model.of(p, 3) : near(0, 3); due("said(" + p + ", " + k + ")", beam.said(p, k), model.said(p, k)); break; }
                case "whose": due("whose()", beam.whose(), model.whose()); break;
                case "free": { int p = someone(); due("free(" + p + ")", beam.free(p), model.free(p)); break; }
                case "lone": due("lone()", beam.lone(), model.lone()); break;
                case "heaviest": due("heaviest()", beam.heaviest(), model.heaviest()); break;
                case "travelled": due("travelled()", beam.travelled(), model.travelled()); break;
                case "ledger": { int p = random.nextInt(4) == 0 ? -1 : someone(); due("ledger(" + p + ")", beam.ledger(p), model.ledger(p)); break; }
                case "image": if (random.nextInt(2) == 0) { due("image()", beam.image(), model.image()); } break;
                case "back": if (random.nextInt(3) == 0) { due("back()", beam.back(), model.back()); } break;
                default: { int k = near(0, 6); due("about(" + k + ")", beam.about(k), model.about(k)); }
            }
        }

        void person() {
            int w = near(1, 9);
            int at = near(0, 8);
            due("person(" + w + ", " + at + ")", beam.person(w, at), model.person(w, at));
        }

        void errands() {
            boolean q = random.nextBoolean();
            if (model.w.size() == 4 && random.nextInt(3) != 0) {
                return;
            }
            int n = model.errands(q, -1);
            due("errands(" + q + ", -1)", beam.errands(q, -1), n);
            for (int i = -2; i <= n && i < 6; i++) {
                due("errands(" + q + ", " + i + ")", beam.errands(q, i), model.errands(q, i));
            }
        }

        /** A drawn text, whole or broken, is fed and read. */
        void script() {
            String s = new Writer(random).text();
            if (random.nextInt(4) == 0) {
                due("end(0)", beam.end(0), model.end(0));
            }
            int had = model.tape.size();
            byte[] bytes = s.getBytes(java.nio.charset.StandardCharsets.ISO_8859_1);
            for (int i = 0; i < bytes.length; i += 20) {
                int[] v = new int[5];
                for (int k = 0; k < 20; k++) {
                    v[k / 4] |= (i + k < bytes.length ? bytes[i + k] & 255 : 0) << (24 - 8 * (k % 4));
                }
                due("feed(" + Arrays.toString(v) + ")", beam.feed(v[0], v[1], v[2], v[3], v[4]), model.feed(v));
            }
            due("end(" + (had + bytes.length) + ")", beam.end(had + bytes.length), model.end(had + bytes.length));
            due("text() of " + s, beam.text(), model.text());
            due("fault(0)", beam.fault(0), model.fault(0));
            due("fault(1)", beam.fault(1), model.fault(1));
            due("about(6)", beam.about(6), model.about(6));
            if (random.nextBoolean()) {
                int t = model.texts.size() - 1;
                due("by(" + t + ")", beam.by(t), model.by(t));
            }
        }
    }

    /** Writes texts by the grammar, and breaks some of them. */
    private static final class Writer {
        final Random random;
        final boolean breaks;

        Writer(Random random) {
            this.random = random;
            breaks = random.nextInt(3) == 0;
        }

        String text() {
            List<String> tokens = new ArrayList<>();
            int n = random.nextInt(20) == 0 ? 26 : 1 + random.nextInt(7);
            boolean tips = false;
            boolean slides = false;
            for (int i = 0; i < n; i++) {
                int k = random.nextInt(10);
                if (k < 2 && (!tips || breaks)) {
                    tips = true;
                    tokens.add("tips");
                    sum(tokens, false, 2);
                } else if (k < 4 && (!slides || breaks)) {
                    slides = true;
                    tokens.add("slides");
                    sum(tokens, true, 2);
                } else {
                    plain(tokens);
                }
                tokens.add(";");
            }
            if (breaks) {
                damage(tokens);
            }
            StringBuilder out = new StringBuilder();
            String before = "";
            for (String t : tokens) {
                boolean close = !before.isEmpty() && !t.isEmpty() && same(before.charAt(before.length() - 1), t.charAt(0));
                if (close && !(breaks && random.nextInt(30) == 0) || random.nextInt(8) == 0) {
                    out.append(random.nextInt(4) == 0 ? "\n" : " ");
                }
                out.append(t);
                before = t;
            }
            String s = out.toString();
            return s.length() > 300 ? s.substring(0, 200 + random.nextInt(101)) : s;
        }

        static boolean same(char a, char b) {
            return Character.isLetter(a) && Character.isLetter(b) || Character.isDigit(a) && Character.isDigit(b)
                || (a == '<' || a == '>') && b == '=';
        }

        void damage(List<String> tokens) {
            String[] any = {"tips", "slides", "(", ")", "-", "not", "if", "then", "else", "end", "sign", "load", "who",
                "weight", "place", "hour", "all", "10000", "123456789012", "0", "9", "61", ";", "at", "<", "<=", "=", "#",
                "or", "and", "!", "\u00e9", "\t", "Tip", "x", "\0", "*", "left", "goal", "person"};
            int times = 1 + random.nextInt(2);
            for (int i = 0; i < times && !tokens.isEmpty(); i++) {
                int at = random.nextInt(tokens.size());
                int how = random.nextInt(4);
                if (how == 0) {
                    tokens.remove(at);
                } else if (how == 1) {
                    tokens.set(at, any[random.nextInt(any.length)]);
                } else if (how == 2) {
                    tokens.add(at, any[random.nextInt(any.length)]);
                } else {
                    while (tokens.size() > at) {
                        tokens.remove(tokens.size() - 1);
                    }
                }
            }
        }

        String number(int low, int high) {
            int v = breaks && random.nextInt(12) == 0 ? (random.nextBoolean() ? Math.max(low - 1, 0) : high + 1) : low + random.nextInt(high - low + 1);
            return (random.nextInt(10) == 0 ? "00" : "") + v;
        }

        void plain(List<String> t) {
            switch (random.nextInt(7)) {
                case 0: t.addAll(List.of("person", number(1, 9), "at", number(0, 8))); break;
                case 1: t.addAll(List.of("goal", number(0, 3), "at", number(0, 8))); break;
                case 2: t.addAll(List.of("left", number(0, 3))); break;
                case 3: t.addAll(List.of("right", number(0, 3))); break;
                case 4: t.addAll(List.of("shovel", number(1, 9), "at", number(0, 8))); break;
                default: t.addAll(List.of("hour", random.nextBoolean() ? number(1, 4) : number(1, 60)));
            }
        }

        void sum(List<String> t, boolean slides, int depth) {
            product(t, slides, depth);
            while (random.nextInt(3) == 0) {
                t.add(random.nextBoolean() ? "+" : "-");
                product(t, slides, depth);
            }
        }

        void product(List<String> t, boolean slides, int depth) {
            one(t, slides, depth);
            while (random.nextInt(4) == 0) {
                t.add(random.nextBoolean() ? "*" : "/");
                one(t, slides, depth);
            }
        }

        void one(List<String> t, boolean slides, int depth) {
            if (random.nextInt(14) == 0) {
                int deep = 1 + random.nextInt(breaks ? 10 : 5);
                for (int i = 0; i < deep; i++) {
                    t.add(List.of("-", "sign", "load").get(random.nextInt(3)));
                }
                t.add(number(0, 9));
                return;
            }
            int k = random.nextInt(depth > 0 ? 10 : 4);
            switch (k) {
                case 0: case 1: t.add(random.nextInt(6) == 0 ? number(0, 9999) : number(0, 20)); break;
                case 2: case 3: t.add(name(slides)); break;
                case 4: t.add("("); sum(t, slides, depth - 1); t.add(")"); break;
                case 5: t.add("-"); one(t, slides, depth - 1); break;
                case 6: t.add("sign"); one(t, slides, depth - 1); break;
                case 7: t.add("load"); one(t, slides, depth - 1); break;
                default:
                    t.add("if");
                    asks(t, slides, depth - 1);
                    t.add("then");
                    sum(t, slides, depth - 1);
                    t.add("else");
                    sum(t, slides, depth - 1);
                    t.add("end");
            }
        }

        String name(boolean slides) {
            String[] all = {"hour", "tip", "all", "snow", "who", "weight", "place"};
            return all[random.nextInt(slides || breaks && random.nextInt(5) == 0 ? 7 : 4)];
        }

        void asks(List<String> t, boolean slides, int depth) {
            int n = 1 + random.nextInt(2);
            for (int i = 0; i < n; i++) {
                if (i > 0) {
                    t.add(random.nextBoolean() ? "or" : "and");
                }
                while (random.nextInt(4) == 0) {
                    t.add("not");
                }
                sum(t, slides, depth);
                t.add(List.of("<", "<=", ">", ">=", "=", "#").get(random.nextInt(6)));
                sum(t, slides, depth);
            }
        }
    }

    // ---------------------------------------------------------------- the language, as trees

    private interface Num {
        long of(Model m, int who);
    }

    private interface Yes {
        boolean of(Model m, int who);
    }

    private static final class Fault extends RuntimeException {
        private static final long serialVersionUID = 1;
        final int kind;
        final int place;

        Fault(int kind, int place) {
            super(null, null, false, false);
            this.kind = kind;
            this.place = place;
        }
    }

    private record Clause(String word, int a, int b) {
    }

    private static final class Script {
        final List<Clause> clauses = new ArrayList<>();
        Num tips;
        Num slides;
    }

    private static final class Parser {
        final byte[] bytes;
        int at = 0;
        String token;
        int start;
        int opened = 0;
        boolean inSlides;

        Parser(byte[] bytes) {
            this.bytes = bytes;
            step();
        }

        static boolean letter(int c) {
            return c >= 'a' && c <= 'z' || c >= 'A' && c <= 'Z';
        }

        static boolean digit(int c) {
            return c >= '0' && c <= '9';
        }

        void step() {
            while (at < bytes.length && (bytes[at] == 32 || bytes[at] == 10)) {
                at++;
            }
            start = at;
            if (at == bytes.length) {
                token = "";
                return;
            }
            int c = bytes[at++];
            if (letter(c)) {
                while (at < bytes.length && letter(bytes[at])) {
                    at++;
                }
            } else if (digit(c)) {
                while (at < bytes.length && digit(bytes[at])) {
                    at++;
                }
            } else if ((c == '<' || c == '>') && at < bytes.length && bytes[at] == '=') {
                at++;
            }
            token = new String(bytes, start, at - start, java.nio.charset.StandardCharsets.ISO_8859_1);
        }

        Fault fault(int kind) {
            return new Fault(kind, token.isEmpty() ? bytes.length : start);
        }

        void take(String t) {
            if (!token.equals(t)) {
                throw fault(1);
            }
            step();
        }

        int number(int low, int high) {
            if (token.isEmpty() || !digit(token.charAt(0))) {
                throw fault(1);
            }
            java.math.BigInteger v = new java.math.BigInteger(token);
            if (v.compareTo(java.math.BigInteger.valueOf(high)) > 0 || v.intValue() < low) {
                throw fault(2);
            }
            step();
            return v.intValue();
        }

        Script script() {
            Script s = new Script();
            while (!token.isEmpty()) {
                String word = token;
                if (!List.of("tips", "slides", "person", "goal", "left", "right", "shovel", "hour").contains(word)) {
                    throw fault(1);
                }
                if (word.equals("tips") && s.tips != null || word.equals("slides") && s.slides != null) {
                    throw fault(4);
                }
                if (s.clauses.size() == 24) {
                    throw fault(6);
                }
                step();
                int a = 0;
                int b = 0;
                inSlides = word.equals("slides");
                switch (word) {
                    case "tips": s.tips = sum(); break;
                    case "slides": s.slides = sum(); break;
                    case "person": a = number(1, 9); take("at"); b = number(0, 8); break;
                    case "goal": a = number(0, 3); take("at"); b = number(0, 8); break;
                    case "shovel": a = number(1, 9); take("at"); b = number(0, 8); break;
                    case "hour": a = number(1, 60); break;
                    default: a = number(0, 3);
                }
                take(";");
                s.clauses.add(new Clause(word, a, b));
            }
            return s;
        }

        static long cap(long v) {
            return v > 1000000 ? 1000000 : v < -1000000 ? -1000000 : v;
        }

        void open() {
            if (opened == 8) {
                throw fault(3);
            }
            opened++;
            step();
        }

        Num sum() {
            Num left = product();
            while (token.equals("+") || token.equals("-")) {
                boolean plus = token.equals("+");
                step();
                Num a = left;
                Num b = product();
                left = plus ? (m, w) -> cap(a.of(m, w) + b.of(m, w)) : (m, w) -> cap(a.of(m, w) - b.of(m, w));
            }
            return left;
        }

        Num product() {
            Num left = one();
            while (token.equals("*") || token.equals("/")) {
                boolean times = token.equals("*");
                step();
                Num a = left;
                Num b = one();
                left = times ? (m, w) -> cap(a.of(m, w) * b.of(m, w)) : (m, w) -> b.of(m, w) == 0 ? 0 : cap(a.of(m, w) / b.of(m, w));
            }
            return left;
        }

        Num one() {
            if (!token.isEmpty() && digit(token.charAt(0))) {
                int v = number(0, 9999);
                return (m, w) -> v;
            }
            Num result;
            switch (token) {
                case "hour": step(); return (m, w) -> m.hour;
                case "tip": step(); return (m, w) -> m.tipNow();
                case "all": step(); return (m, w) -> m.allWeight();
                case "snow": step(); return (m, w) -> Arrays.stream(m.snow).sum();
                case "who": case "weight": case "place": return ofPerson();
                case "(": open(); result = sum(); take(")"); break;
                case "-": { open(); Num a = one(); result = (m, w) -> -a.of(m, w); break; }
                case "sign": { open(); Num a = one(); result = (m, w) -> Long.signum(a.of(m, w)); break; }
                case "load": { open(); Num a = one(); result = (m, w) -> m.load(a.of(m, w)); break; }
                case "if": result = choice(); break;
                default: throw fault(1);
            }
            opened--;
            return result;
        }

        Num ofPerson() {
            if (!inSlides) {
                throw fault(5);
            }
            String word = token;
            step();
            return word.equals("who") ? (m, w) -> w : word.equals("weight") ? (m, w) -> m.w.get(w) : (m, w) -> m.at.get(w);
        }

        Num choice() {
            open();
            Yes ask = either();
            take("then");
            Num a = sum();
            take("else");
            Num b = sum();
            take("end");
            return (m, w) -> ask.of(m, w) ? a.of(m, w) : b.of(m, w);
        }

        Yes either() {
            Yes left = both();
            while (token.equals("or")) {
                step();
                Yes a = left;
                Yes b = both();
                left = (m, w) -> a.of(m, w) | b.of(m, w);
            }
            return left;
        }

        Yes both() {
            Yes left = ask();
            while (token.equals("and")) {
                step();
                Yes a = left;
                Yes b = ask();
                left = (m, w) -> a.of(m, w) & b.of(m, w);
            }
            return left;
        }

        Yes ask() {
            if (token.equals("not")) {
                open();
                Yes a = ask();
                opened--;
                return (m, w) -> !a.of(m, w);
            }
            Num a = sum();
            String op = token;
            if (!List.of("<", "<=", ">", ">=", "=", "#").contains(op)) {
                throw fault(1);
            }
            step();
            Num b = sum();
            return (m, w) -> {
                int c = Long.compare(a.of(m, w), b.of(m, w));
                switch (op) {
                    case "<": return c < 0;
                    case "<=": return c <= 0;
                    case ">": return c > 0;
                    case ">=": return c >= 0;
                    case "=": return c == 0;
                    default: return c != 0;
                }
            };
        }
    }

    // ---------------------------------------------------------------- the model

    private static final class Model {
        List<Integer> w = new ArrayList<>();
        List<Integer> at = new ArrayList<>();
        List<Integer> aim = new ArrayList<>();
        int[] snow = new int[9];
        int hour = 0;
        int x = 349;
        List<int[]> book = new ArrayList<>();
        List<int[]> hands = new ArrayList<>();
        List<int[]> sayings = new ArrayList<>();
        List<Script> texts = new ArrayList<>();
        int ruling = -1;
        Deque<Model> steps = new ArrayDeque<>();
        List<Byte> tape = new ArrayList<>();
        int faultKind = -1;
        int faultPlace = -1;
        Model image;

        Model() {
            image = copy();
        }

        private Model(boolean blank) {
        }

        Model copy() {
            Model m = new Model(true);
            m.w = new ArrayList<>(w);
            m.at = new ArrayList<>(at);
            m.aim = new ArrayList<>(aim);
            m.snow = snow.clone();
            m.hour = hour;
            m.x = x;
            m.book = new ArrayList<>(book);
            m.hands = new ArrayList<>(hands);
            m.sayings = new ArrayList<>(sayings);
            m.texts = new ArrayList<>(texts);
            m.ruling = ruling;
            m.steps = new ArrayDeque<>(steps);
            return m;
        }

        boolean in(int v, int low, int high) {
            return low <= v && v <= high;
        }

        boolean known(int p) {
            return in(p, 0, w.size() - 1);
        }

        int tipOf(List<Integer> where, int set) {
            int tip = 0;
            for (int p = 0; p < w.size(); p++) {
                if ((set & 1 << p) != 0) {
                    tip += w.get(p) * (where.get(p) - 4);
                }
            }
            for (int p = 0; p < 9; p++) {
                tip += snow[p] * (p - 4);
            }
            return tip;
        }

        int tipNow() {
            return tipOf(at, 15);
        }

        int allWeight() {
            return w.stream().mapToInt(v -> v).sum() + Arrays.stream(snow).sum();
        }

        long load(long place) {
            long sum = 0;
            for (int p = 0; p < w.size(); p++) {
                sum += at.get(p) == place ? w.get(p) : 0;
            }
            return place < 0 || place > 8 ? 0 : sum + snow[(int) place];
        }

        int tips() {
            Num law = ruling < 0 ? null : texts.get(ruling).tips;
            return law == null ? 9 : (int) Math.max(0, Math.min(99, law.of(this, -1)));
        }

        int slides(int text, int p) {
            Num law = text < 0 ? null : texts.get(text).slides;
            return law == null ? 1 : (int) Math.max(0, Math.min(3, law.of(this, p)));
        }

        int person(int weight, int place) {
            if (!in(weight, 1, 9) || !in(place, 0, 8) || w.size() == 4) {
                return -1;
            }
            w.add(weight);
            at.add(place);
            aim.add(-1);
            return w.size() - 1;
        }

        boolean goal(int p, int place) {
            if (!known(p) || !in(place, -1, 8)) {
                return false;
            }
            aim.set(p, place);
            return true;
        }

        int hand(int weight, int wage) {
            if (!in(weight, 1, 9) || !in(wage, 0, 99) || hands.size() == 4) {
                return -1;
            }
            hands.add(new int[] {weight, wage});
            return hands.size() - 1;
        }

        int feed(int[] v) {
            if (tape.size() > 280) {
                return -1;
            }
            java.nio.ByteBuffer b = java.nio.ByteBuffer.allocate(20);
            for (int k : v) {
                b.putInt(k);
            }
            for (byte one : b.array()) {
                tape.add(one);
            }
            return tape.size();
        }

        int end(int n) {
            if (!in(n, 0, tape.size())) {
                return -1;
            }
            tape = new ArrayList<>(tape.subList(0, n));
            return n;
        }

        int text() {
            if (texts.size() == 4) {
                return -1;
            }
            byte[] bytes = new byte[tape.size()];
            for (int i = 0; i < bytes.length; i++) {
                bytes[i] = tape.get(i);
            }
            tape.clear();
            faultKind = 0;
            faultPlace = -1;
            try {
                texts.add(new Parser(bytes).script());
            } catch (Fault f) {
                faultKind = f.kind;
                faultPlace = f.place;
                return -1;
            }
            return texts.size() - 1;
        }

        int fault(int what) {
            return what == 0 ? faultKind : what == 1 ? faultPlace : -1;
        }

        boolean by(int t) {
            if (!in(t, -1, texts.size() - 1)) {
                return false;
            }
            ruling = t;
            return true;
        }

        void step(Model before) {
            steps.addLast(before);
            if (steps.size() > 30) {
                steps.removeFirst();
            }
        }

        /** Copies without steps are enough for what a step takes back. */
        Model before() {
            Deque<Model> all = steps;
            steps = new ArrayDeque<>();
            Model m = copy();
            steps = all;
            return m;
        }

        boolean still() {
            return Math.abs(tipNow()) <= tips();
        }

        boolean moves(int[] who, boolean[] right) {
            List<Integer> was = new ArrayList<>(at);
            for (int i = 0; i < who.length; i++) {
                if (!known(who[i]) || i > 0 && who[i] == who[0]) {
                    at = was;
                    return false;
                }
                at.set(who[i], at.get(who[i]) + (right[i] ? 1 : -1));
            }
            if (at.stream().anyMatch(v -> v < 0 || v > 8) || !still()) {
                at = was;
                return false;
            }
            return true;
        }

        boolean walk(int p, boolean r) {
            Model b = before();
            if (moves(new int[] {p}, new boolean[] {r})) {
                step(b);
                return true;
            }
            return false;
        }

        boolean pair(int p, boolean r, int q, boolean o) {
            Model b = before();
            if (moves(new int[] {p, q}, new boolean[] {r, o})) {
                step(b);
                return true;
            }
            return false;
        }

        boolean shovels(int place, int n) {
            if (snow[place] < n) {
                return false;
            }
            snow[place] -= n;
            if (!still()) {
                snow[place] += n;
                return false;
            }
            return true;
        }

        boolean shovel(int place, int n) {
            Model b = before();
            if (in(place, 0, 8) && in(n, 1, 9) && shovels(place, n)) {
                step(b);
                return true;
            }
            return false;
        }

        int draw() {
            int drawn = x;
            x = (int) ((x * 601L + 467) % 30841);
            return drawn;
        }

        boolean passes() {
            int place = draw() % 9;
            if (snow[place] < 9) {
                snow[place]++;
            }
            int tip = tipNow();
            boolean slip = !still();
            for (int p = 0; slip && p < w.size(); p++) {
                int from = at.get(p);
                int to = Math.max(0, Math.min(8, from + Integer.signum(tip) * slides(ruling, p)));
                if (from != to) {
                    at.set(p, to);
                    book.add(new int[] {hour, p, from, to});
                }
            }
            while (book.size() > 30) {
                book.remove(0);
            }
            hour++;
            return slip;
        }

        int hour(int n) {
            if (!in(n, 1, 60) || hour + n > 9999) {
                return -1;
            }
            int slipped = 0;
            for (int i = 0; i < n; i++) {
                Model b = before();
                slipped += passes() ? 1 : 0;
                step(b);
            }
            return slipped;
        }

        int played(int t) {
            if (!in(t, 0, texts.size() - 1)) {
                return -2;
            }
            List<Clause> all = texts.get(t).clauses;
            for (int i = 0; i < all.size(); i++) {
                if (!does(all.get(i))) {
                    return i;
                }
            }
            return -1;
        }

        boolean does(Clause c) {
            switch (c.word()) {
                case "person": return person(c.a(), c.b()) >= 0;
                case "goal": return goal(c.a(), c.b());
                case "left": return walk(c.a(), false);
                case "right": return walk(c.a(), true);
                case "shovel": return shovel(c.b(), c.a());
                case "hour":
                    for (int i = 0; i < c.a(); i++) {
                        if (hour(1) < 0) {
                            return false;
                        }
                    }
                    return true;
                default: return true;
            }
        }

        int years(int seed, int n) {
            if (!in(seed, 0, 9999) || !in(n, 1, 40)) {
                return -1;
            }
            step(before());
            x = seed * 2 + 349;
            for (int i = 0; i < n; i++) {
                int v = draw();
                int many = w.size();
                switch (v % 6) {
                    case 0: case 1: if (many > 0) { moves(new int[] {v % many}, new boolean[] {v % 6 == 1}); } break;
                    case 2: shovels(v / 6 % 9, 1); break;
                    case 3: if (many > 0) { moves(new int[] {v % many, v / 6 % many}, new boolean[] {false, true}); } break;
                    default: if (hour < 9999) { passes(); }
                }
            }
            return hour;
        }

        int undo() {
            if (steps.isEmpty()) {
                return -1;
            }
            Model m = steps.removeLast();
            for (int p = 0; p < m.at.size(); p++) {
                at.set(p, m.at.get(p));
            }
            snow = m.snow.clone();
            hour = m.hour;
            x = m.x;
            book = new ArrayList<>(m.book);
            return steps.size();
        }

        int of(int p, int what) {
            if (!known(p) || !in(what, 0, 3)) {
                return -2;
            }
            return new int[] {w.get(p), at.get(p), aim.get(p), slides(ruling, p)}[what];
        }

        int place(int place, int what) {
            if (!in(place, 0, 8) || !in(what, 0, 2)) {
                return -1;
            }
            int bits = 0;
            for (int p = 0; p < w.size(); p++) {
                bits += at.get(p) == place ? 1 << p : 0;
            }
            return new int[] {snow[place], bits, (int) load(place)}[what];
        }

        int is(int what) {
            return in(what, 0, 4) ? new int[] {hour, x, tipNow(), tips(), allWeight()}[what] : -1000;
        }

        int book(int i, int what) {
            if (i == -1) {
                return book.size();
            }
            return in(i, 0, book.size() - 1) && in(what, 0, 3) ? book.get(i)[what] : -2;
        }

        int foretold(int n, int p) {
            if (!in(n, 1, 60) || !known(p)) {
                return -1;
            }
            Model m = before();
            for (int i = 0; i < n; i++) {
                if (m.hour < 9999) {
                    m.passes();
                }
            }
            return m.at.get(p);
        }

        int tip(int p, int place) {
            if (!known(p) || !in(place, 0, 8)) {
                return -1000;
            }
            Model m = before();
            m.at.set(p, place);
            return m.tipNow();
        }

        boolean home(List<Integer> where) {
            for (int p = 0; p < w.size(); p++) {
                if (aim.get(p) >= 0 && !aim.get(p).equals(where.get(p))) {
                    return false;
                }
            }
            return true;
        }

        /** All goings from a standing by their numbers, as they can be. */
        Map<Integer, List<Integer>> goings(List<Integer> from, boolean pairs) {
            Map<Integer, List<Integer>> all = new java.util.TreeMap<>();
            List<Integer> was = at;
            for (int a = 0; a < w.size(); a++) {
                for (int r = 0; r < 2; r++) {
                    at = new ArrayList<>(from);
                    if (moves(new int[] {a}, new boolean[] {r == 1})) {
                        all.put(2 * a + r, at);
                    }
                    for (int b = a + 1; pairs && b < w.size(); b++) {
                        for (int o = 0; o < 2; o++) {
                            at = new ArrayList<>(from);
                            if (moves(new int[] {a, b}, new boolean[] {r == 1, o == 1})) {
                                all.put(10 + 16 * a + 8 * r + 2 * b + o, at);
                            }
                        }
                    }
                }
            }
            at = was;
            return all;
        }

        Map<List<Integer>, Map<Integer, List<Integer>>> graph(boolean pairs) {
            Map<List<Integer>, Map<Integer, List<Integer>>> known = new HashMap<>();
            Deque<List<Integer>> open = new ArrayDeque<>();
            List<Integer> start = new ArrayList<>(at);
            open.push(start);
            known.put(start, goings(start, pairs));
            while (!open.isEmpty()) {
                for (List<Integer> to : known.get(open.pop()).values()) {
                    if (!known.containsKey(to)) {
                        known.put(to, goings(to, pairs));
                        open.push(to);
                    }
                }
            }
            return known;
        }

        List<Integer> kept;
        String keptFor = "";

        /** The errands by distances to the goals, counted down from all standings at once. */
        List<Integer> path(boolean pairs) {
            String key = pairs + " " + at + aim + w + Arrays.toString(snow) + hour + " " + ruling + System.identityHashCode(ruling < 0 ? null : texts.get(ruling));
            if (keptFor.equals(key)) {
                return kept;
            }
            keptFor = key;
            kept = freshPath(pairs);
            return kept;
        }

        List<Integer> freshPath(boolean pairs) {
            Map<List<Integer>, Map<Integer, List<Integer>>> graph = graph(pairs);
            Map<List<Integer>, List<List<Integer>>> into = new HashMap<>();
            Map<List<Integer>, Integer> far = new HashMap<>();
            Deque<List<Integer>> queue = new ArrayDeque<>();
            for (List<Integer> s : graph.keySet()) {
                for (List<Integer> to : graph.get(s).values()) {
                    into.computeIfAbsent(to, k -> new ArrayList<>()).add(s);
                }
                if (home(s)) {
                    far.put(s, 0);
                    queue.add(s);
                }
            }
            while (!queue.isEmpty()) {
                List<Integer> s = queue.remove();
                for (List<Integer> from : into.getOrDefault(s, List.of())) {
                    if (!far.containsKey(from)) {
                        far.put(from, far.get(s) + 1);
                        queue.add(from);
                    }
                }
            }
            List<Integer> here = new ArrayList<>(at);
            if (!far.containsKey(here)) {
                return null;
            }
            List<Integer> path = new ArrayList<>();
            while (far.get(here) > 0) {
                for (Map.Entry<Integer, List<Integer>> e : graph.get(here).entrySet()) {
                    if (far.getOrDefault(e.getValue(), 99999) == far.get(here) - 1) {
                        path.add(e.getKey());
                        here = e.getValue();
                        break;
                    }
                }
            }
            return path;
        }

        int errands(boolean pairs, int i) {
            List<Integer> path = path(pairs);
            if (path == null || i < -1 || i >= path.size()) {
                return i == -1 && path != null ? path.size() : -2;
            }
            return i == -1 ? path.size() : path.get(i);
        }

        int where(boolean pairs) {
            return graph(pairs).size();
        }

        /** The best of all ways for the hands to stand, each 9 for not at all; null if there is none. */
        int[] pay() {
            int[] best = null;
            int n = hands.size();
            int ways = (int) Math.pow(10, n);
            for (int way = 0; way < ways; way++) {
                int[] seat = new int[n];
                int rest = way;
                int tip = tipNow();
                for (int h = 0; h < n; h++) {
                    seat[h] = rest % 10;
                    rest /= 10;
                    tip += seat[h] < 9 ? hands.get(h)[0] * (seat[h] - 4) : 0;
                }
                if (tip == 0 && (best == null || Arrays.compare(rank(seat), rank(best)) < 0)) {
                    best = seat;
                }
            }
            return best;
        }

        int[] rank(int[] seat) {
            int[] rank = new int[3 + seat.length];
            for (int h = 0; h < seat.length; h++) {
                if (seat[h] < 9) {
                    rank[0] += hands.get(h)[1];
                    rank[1]++;
                    rank[2] += 1 << h;
                }
                rank[3 + h] = seat[h];
            }
            return rank;
        }

        int paid(boolean wage) {
            int[] best = pay();
            return best == null ? -1 : rank(best)[wage ? 0 : 2];
        }

        int stand(int h) {
            int[] best = pay();
            return best == null || !in(h, 0, hands.size() - 1) || best[h] == 9 ? -1 : best[h];
        }

        int cat(int seen, int what) {
            if (!in(seen, -400, 400) || !in(what, 0, 1)) {
                return -1;
            }
            List<Integer> found = new ArrayList<>();
            for (int v = 0; v < 81; v++) {
                if (tipNow() + (v / 9 + 1) * (v % 9 - 4) == seen) {
                    found.add((v / 9 + 1) * 10 + v % 9);
                }
            }
            return what == 0 ? found.size() : found.isEmpty() ? -1 : found.get(0);
        }

        List<Integer> canLeave(int set) {
            List<Integer> all = new ArrayList<>();
            for (int p = 0; p < w.size(); p++) {
                if ((set & 1 << p) != 0 && Math.abs(tipOf(at, set & ~(1 << p))) <= tips()) {
                    all.add(p);
                }
            }
            return all;
        }

        boolean wins(int set) {
            for (int p : canLeave(set)) {
                if (!wins(set & ~(1 << p))) {
                    return true;
                }
            }
            return false;
        }

        int quarrel(boolean who) {
            int all = (1 << w.size()) - 1;
            if (!who) {
                return wins(all) ? 1 : 0;
            }
            for (int p : canLeave(all)) {
                if (!wins(all & ~(1 << p))) {
                    return p;
                }
            }
            return -1;
        }

        void offs(int set, List<Integer> sofar, List<List<Integer>> all) {
            if (set == 0) {
                all.add(new ArrayList<>(sofar));
            }
            for (int p : canLeave(set)) {
                sofar.add(p);
                offs(set & ~(1 << p), sofar, all);
                sofar.remove(sofar.size() - 1);
            }
        }

        List<List<Integer>> allOffs() {
            List<List<Integer>> all = new ArrayList<>();
            offs((1 << w.size()) - 1, new ArrayList<>(), all);
            return all;
        }

        long orders() {
            return allOffs().size();
        }

        int order(int i) {
            List<List<Integer>> all = allOffs();
            return all.isEmpty() || !in(i, 0, w.size() - 1) ? -2 : all.get(0).get(i);
        }

        int[] lowest(int up, int low) {
            for (int d = 2; d <= low; d++) {
                while (up % d == 0 && low % d == 0) {
                    up /= d;
                    low /= d;
                }
            }
            return new int[] {up, low};
        }

        int share(int p, boolean low) {
            if (!known(p)) {
                return -1000;
            }
            int[] sum = new int[2];
            arrivals(0, p, sum);
            return lowest(sum[0], sum[1])[low ? 1 : 0];
        }

        void arrivals(int set, int p, int[] sum) {
            if (set == (1 << w.size()) - 1) {
                sum[1]++;
                return;
            }
            for (int q = 0; q < w.size(); q++) {
                if ((set & 1 << q) == 0) {
                    int orders = sum[1];
                    arrivals(set | 1 << q, p, sum);
                    if (q == p) {
                        sum[0] += (sum[1] - orders) * (Math.abs(tipOf(at, set | 1 << q)) - Math.abs(tipOf(at, set)));
                    }
                }
            }
        }

        int slips(int n, boolean low) {
            if (!in(n, 1, 9)) {
                return -1;
            }
            int bound = tips();
            return lowest(fallen(0, tipNow(), n, bound), 512)[low ? 1 : 0];
        }

        int fallen(int place, int tip, int n, int bound) {
            if (place == 9) {
                return Math.abs(tip) > bound ? 1 : 0;
            }
            return fallen(place + 1, tip, n, bound) + fallen(place + 1, tip + n * (place - 4), n, bound);
        }

        int halves(int what) {
            if (!in(what, 0, 1)) {
                return -1;
            }
            int[] best = {9999, 0};
            for (int set = 0; set < 1 << w.size(); set++) {
                int more = 0;
                for (int p = 0; p < w.size(); p++) {
                    more += (set & 1 << p) != 0 ? w.get(p) : -w.get(p);
                }
                if (Math.abs(more) < best[0]) {
                    best = new int[] {Math.abs(more), set};
                }
            }
            return best[what];
        }

        int level(int i) {
            List<Integer> all = new ArrayList<>();
            for (int v = 0; v < Math.round(Math.pow(9, w.size())); v++) {
                String digits = new StringBuilder("0000" + Integer.toString(v, 9)).reverse().toString();
                List<Integer> where = new ArrayList<>();
                for (int p = 0; p < w.size(); p++) {
                    where.add(digits.charAt(p) - '0');
                }
                if (tipOf(where, 15) == 0) {
                    all.add(v);
                }
            }
            return i == -1 ? all.size() : in(i, 0, all.size() - 1) ? all.get(i) : -2;
        }

        int swap(boolean what) {
            int[] best = null;
            for (int a = 0; a < w.size(); a++) {
                for (int b = a + 1; b < w.size(); b++) {
                    List<Integer> where = new ArrayList<>(at);
                    java.util.Collections.swap(where, a, b);
                    int tip = tipOf(where, 15);
                    if (best == null || Math.abs(tip) < Math.abs(best[0])) {
                        best = new int[] {tip, a * 10 + b};
                    }
                }
            }
            return best == null ? (what ? -1 : -1000) : best[what ? 1 : 0];
        }

        int send(int weight) {
            if (!in(weight, 1, 9)) {
                return -1;
            }
            int best = 0;
            for (int p = 8; p >= 0; p--) {
                if (Math.abs(tipNow() + weight * (p - 4)) <= Math.abs(tipNow() + weight * (best - 4)) || p == 8) {
                    best = p;
                }
            }
            return best;
        }

        int said(int p, int k) {
            if (p == -1) {
                sayings.clear();
                return 0;
            }
            if (!known(p) || !in(k, 0, 3) || sayings.size() == 8) {
                return -2;
            }
            sayings.add(new int[] {p, k});
            return sayings.size();
        }

        int whose() {
            int bits = 0;
            for (int t = 0; t < texts.size(); t++) {
                int text = t;
                bits += sayings.stream().allMatch(s -> slides(text, s[0]) == s[1]) ? 1 << t : 0;
            }
            return bits;
        }

        int free(int p) {
            if (!known(p)) {
                return -1;
            }
            return (before().walk(p, false) ? 1 : 0) + (before().walk(p, true) ? 2 : 0);
        }

        int lone() {
            int bits = 0;
            for (int p = 0; p < w.size(); p++) {
                int here = at.get(p);
                bits += at.stream().filter(v -> v == here).count() == 1 ? 1 << p : 0;
            }
            return bits;
        }

        int heaviest() {
            long most = 0;
            int best = -1;
            for (int p = 8; p >= 0; p--) {
                if (load(p) > 0 && load(p) >= most) {
                    most = load(p);
                    best = p;
                }
            }
            return best;
        }

        int travelled() {
            int best = -1;
            for (int p = w.size() - 1; p >= 0; p--) {
                if (ledger(p) > 0 && (best < 0 || ledger(p) >= ledger(best))) {
                    best = p;
                }
            }
            return best;
        }

        int ledger(int p) {
            if (p == -1) {
                return book.size();
            }
            return known(p) ? (int) book.stream().filter(e -> e[1] == p).count() : -2;
        }

        int image() {
            image = copy();
            return hour;
        }

        int back() {
            Model m = image.copy();
            w = m.w;
            at = m.at;
            aim = m.aim;
            snow = m.snow;
            hour = m.hour;
            x = m.x;
            book = m.book;
            hands = m.hands;
            sayings = m.sayings;
            texts = m.texts;
            ruling = m.ruling;
            steps = m.steps;
            return hour;
        }

        int about(int what) {
            return in(what, 0, 6) ? new int[] {w.size(), hands.size(), texts.size(), ruling, steps.size(), sayings.size(), tape.size()}[what] : -2;
        }
    }
}
