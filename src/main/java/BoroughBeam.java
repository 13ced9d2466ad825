import java.util.Arrays;

/** A borough on a beam: people and snow on a plank that tips, the laws of its tipping, and what can be told of it. */
public final class BoroughBeam {
    public static final int NONE = -1;

    private static final int NO_ANSWER = -2;
    private static final int NO_TIP = -1000;

    private static final int PLACES = 9;
    private static final int STONE = 4;
    private static final int PEOPLE = 4;
    private static final int SETS = 16;
    private static final int STANDINGS = 6561;
    private static final int MOST_WEIGHT = 9;
    private static final int MOST_SNOW = 9;
    private static final int LAST_HOUR = 9999;
    private static final int MOST_HOURS = 60;
    private static final int MOST_WRITTEN = 30;
    private static final int MOST_STEPS = 30;
    private static final int MOST_HANDS = 4;
    private static final int MOST_WAGE = 99;
    private static final int MOST_SAID = 8;
    private static final int MOST_TEXTS = 4;
    private static final int MOST_CLAUSES = 24;
    private static final int MOST_BYTES = 300;
    private static final int BYTES_FED = 20;
    private static final int MOST_NUMBER = 9999;
    private static final int MOST_OPEN = 8;
    private static final int FARTHEST_SEEN = 400;
    private static final int SNOWS = 512;

    private static final int FIRST_X = 349;
    private static final int FACTOR = 601;
    private static final int ADDEND = 467;
    private static final int MODULUS = 30841;
    private static final int MOST_SEED = 9999;
    private static final int MOST_YEARS = 40;

    private static final int TIPS_WITHOUT = 9;
    private static final int TIPS_MOST = 99;
    private static final int SLIDES_WITHOUT = 1;
    private static final int SLIDES_MOST = 3;
    private static final int BOUND = 1000000;

    // Goings of one person are numbered 0 .. 7, pairs from FIRST_PAIR on, all below GOINGS.
    private static final int SINGLES = 8;
    private static final int FIRST_PAIR = 10;
    private static final int GOINGS = 64;

    private static final int[] POWERS = {1, 9, 81, 729, 6561};
    private static final int[] FACTORIALS = {1, 1, 2, 6, 24};

    // Kinds of tokens: a sign of one byte is its own kind, the others are numbered above all bytes.
    private static final int AT_MOST = 256;
    private static final int AT_LEAST = 257;
    private static final int NUMBER = 258;
    private static final int FINISH = 259;
    private static final int UNKNOWN = 260;
    private static final int FIRST_WORD = 300;
    private static final String SIGNS = "<>=#+-*/();";

    // Clauses' words come first and names behind them; hour, being both, stands where they meet.
    private static final String WORDS =
            "tips slides person goal left right shovel hour tip all snow who weight place at sign load if then else end or and not ";
    private static final int WORD_TIPS = 300;
    private static final int WORD_SLIDES = 301;
    private static final int WORD_PERSON = 302;
    private static final int WORD_GOAL = 303;
    private static final int WORD_LEFT = 304;
    private static final int WORD_RIGHT = 305;
    private static final int WORD_SHOVEL = 306;
    private static final int WORD_HOUR = 307;
    private static final int WORD_WHO = 311;
    private static final int WORD_PLACE = 313;
    private static final int WORD_AT = 314;
    private static final int WORD_SIGN = 315;
    private static final int WORD_LOAD = 316;
    private static final int WORD_IF = 317;
    private static final int WORD_THEN = 318;
    private static final int WORD_ELSE = 319;
    private static final int WORD_END = 320;
    private static final int WORD_OR = 321;
    private static final int WORD_AND = 322;
    private static final int WORD_NOT = 323;

    // Names are numbered as their words are, from hour on.
    private static final int NAMES = 7;
    private static final int NAME_HOUR = 0;
    private static final int NAME_TIP = 1;
    private static final int NAME_ALL = 2;
    private static final int NAME_SNOW = 3;
    private static final int NAME_WHO = 4;
    private static final int NAME_WEIGHT = 5;
    private static final int NAME_PLACE = 6;

    private static final int FAULT_GRAMMAR = 1;
    private static final int FAULT_NUMBER = 2;
    private static final int FAULT_DEPTH = 3;
    private static final int FAULT_TWICE = 4;
    private static final int FAULT_NAME = 5;
    private static final int FAULT_CLAUSES = 6;

    // A law's code: each element is an operation in its lowest bits and what belongs to it above them.
    private static final int OP_BITS = 5;
    private static final int OP_MASK = 31;
    private static final int OP_NUMBER = 0;
    private static final int OP_NAME = 1;
    private static final int OP_SKIP = 2;
    private static final int OP_SKIP_UNLESS = 3;
    private static final int OP_NEGATE = 4;
    private static final int OP_SIGN = 5;
    private static final int OP_LOAD = 6;
    private static final int OP_NOT = 7;
    private static final int OP_ADD = 8;
    private static final int OP_SUBTRACT = 9;
    private static final int OP_MULTIPLY = 10;
    private static final int OP_DIVIDE = 11;
    private static final int OP_BELOW = 12;
    private static final int OP_AT_MOST = 13;
    private static final int OP_ABOVE = 14;
    private static final int OP_AT_LEAST = 15;
    private static final int OP_LIKE = 16;
    private static final int OP_UNLIKE = 17;
    private static final int OP_OR = 18;
    private static final int OP_AND = 19;

    private final Borough now;
    private final Borough kept;
    private final Town trial;
    private final Reader reader;
    private final Tape tape;
    private final Crowd crowd;
    /** Null until goings are first asked for: its rows are most of what an object holds. */
    private Search search;

    public BoroughBeam() {
        now = new Borough();
        kept = new Borough();
        trial = new Town();
        reader = new Reader();
        tape = reader.tape;
        crowd = new Crowd();
        search = null;
    }

    public int person(int weight, int place) {
        if (!within(weight, 1, MOST_WEIGHT) || !within(place, 0, PLACES - 1)) {
            return NONE;
        }
        return now.town.settle(weight, place);
    }

    public boolean goal(int person, int place) {
        if (!within(place, NONE, PLACES - 1)) {
            return false;
        }
        return now.town.aims(person, place);
    }

    public int hand(int weight, int wage) {
        if (!within(weight, 1, MOST_WEIGHT) || !within(wage, 0, MOST_WAGE)) {
            return NONE;
        }
        return now.hands.hire(weight, wage);
    }

    public int feed(int a, int b, int c, int d, int e) {
        if (tape.length + BYTES_FED > MOST_BYTES) {
            return NONE;
        }
        tape.append(a);
        tape.append(b);
        tape.append(c);
        tape.append(d);
        tape.append(e);
        return tape.length;
    }

    public int end(int n) {
        if (!within(n, 0, tape.length)) {
            return NONE;
        }
        tape.length = n;
        return n;
    }

    public int text() {
        if (now.textCount >= MOST_TEXTS) {
            return NONE;
        }
        Text read = reader.read();
        tape.length = 0;
        return read == null ? NONE : now.addText(read);
    }

    public int fault(int what) {
        if (what == 0) {
            return reader.fault;
        }
        return what == 1 ? reader.faultPlace : NONE;
    }

    public boolean by(int text) {
        if (!within(text, NONE, now.textCount - 1)) {
            return false;
        }
        now.rule(text);
        return true;
    }

    public boolean walk(int person, boolean right) {
        return now.walks(person, right);
    }

    public boolean pair(int a, boolean right, int b, boolean other) {
        return now.walksPaired(a, right, b, other);
    }

    public boolean shovel(int place, int n) {
        if (!within(place, 0, PLACES - 1) || !within(n, 1, MOST_SNOW)) {
            return false;
        }
        return now.shovels(place, n);
    }

    public int hour(int n) {
        if (!within(n, 1, MOST_HOURS) || now.town.hour + n > LAST_HOUR) {
            return NONE;
        }
        return now.waits(n);
    }

    public int played(int text) {
        Text script = now.textOf(text);
        if (script == null) {
            return NO_ANSWER;
        }
        for (int i = 0; i < script.kinds.length; i++) {
            if (!now.does(script.kinds[i], script.firsts[i], script.seconds[i])) {
                return i;
            }
        }
        return NONE;
    }

    public int years(int seed, int n) {
        if (!within(seed, 0, MOST_SEED) || !within(n, 1, MOST_YEARS)) {
            return NONE;
        }
        Town town = now.town;
        now.steps.mark(town);
        town.x = seed * 2 + FIRST_X;
        for (int i = 0; i < n; i++) {
            town.happen(town.draw());
        }
        now.steps.keptIf(true);
        return town.hour;
    }

    public int undo() {
        return now.steps.takeBack(now.town);
    }

    public int of(int person, int what) {
        Town town = now.town;
        if (!town.has(person)) {
            return NO_ANSWER;
        }
        switch (what) {
            case 0: return town.weights[person];
            case 1: return town.spots[person];
            case 2: return town.goals[person];
            case 3: return town.slidesBy(town.law, person);
            default: return NO_ANSWER;
        }
    }

    public int place(int place, int what) {
        if (!within(place, 0, PLACES - 1)) {
            return NONE;
        }
        switch (what) {
            case 0: return now.town.snow[place];
            case 1: return now.town.peopleAt(place);
            case 2: return now.town.weightAt(place);
            default: return NONE;
        }
    }

    public int is(int what) {
        Town town = now.town;
        switch (what) {
            case 0: return town.hour;
            case 1: return town.x;
            case 2: return town.tipNow();
            case 3: return town.tipsNow();
            case 4: return town.weightOfAll();
            default: return NO_TIP;
        }
    }

    public int book(int i, int what) {
        return i == NONE ? now.town.written : now.town.entry(i, what);
    }

    public int foretold(int n, int person) {
        if (!within(n, 1, MOST_HOURS) || !now.town.has(person)) {
            return NONE;
        }
        trial.copyFrom(now.town);
        for (int i = 0; i < n && trial.hour < LAST_HOUR; i++) {
            trial.passHour();
        }
        return trial.spots[person];
    }

    public int tip(int person, int place) {
        if (!now.town.has(person) || !within(place, 0, PLACES - 1)) {
            return NO_TIP;
        }
        trial.copyFrom(now.town);
        trial.spots[person] = place;
        return trial.tipNow();
    }

    public int errands(boolean pairs, int i) {
        if (i < NONE) {
            return NO_ANSWER;
        }
        Search found = explored(pairs, true);
        return i == NONE ? found.goingsToGoals() : found.goingToGoals(i);
    }

    public int where(boolean pairs) {
        return explored(pairs, false).reached;
    }

    public int paid(boolean wage) {
        int set = now.hands.cheapest(now.town.tipNow());
        if (set == NONE) {
            return NONE;
        }
        return wage ? now.hands.wageOf(set) : set;
    }

    public int stand(int hand) {
        if (!within(hand, 0, now.hands.count - 1)) {
            return NONE;
        }
        int set = now.hands.cheapest(now.town.tipNow());
        if (set == NONE || !holds(set, hand)) {
            return NONE;
        }
        return now.hands.seats[hand];
    }

    public int cat(int seen, int what) {
        if (!within(seen, -FARTHEST_SEEN, FARTHEST_SEEN) || !within(what, 0, 1)) {
            return NONE;
        }
        int missing = seen - now.town.tipNow();
        int ways = 0;
        int lowest = NONE;
        for (int weight = 1; weight <= MOST_WEIGHT; weight++) {
            for (int place = 0; place < PLACES; place++) {
                if (weight * (place - STONE) == missing) {
                    ways++;
                    lowest = lowest == NONE ? 10 * weight + place : lowest;
                }
            }
        }
        return what == 0 ? ways : lowest;
    }

    public int quarrel(boolean who) {
        crowd.weigh(now.town);
        int first = crowd.winningFirst();
        if (who) {
            return first;
        }
        return first == NONE ? 0 : 1;
    }

    public long orders() {
        crowd.weigh(now.town);
        return crowd.ways[crowd.everybody];
    }

    public int order(int i) {
        if (!within(i, 0, now.town.people - 1)) {
            return NO_ANSWER;
        }
        crowd.weigh(now.town);
        return crowd.goingOff(i);
    }

    public int share(int person, boolean low) {
        if (!now.town.has(person)) {
            return NO_TIP;
        }
        crowd.weigh(now.town);
        int all = FACTORIALS[now.town.people];
        int part = crowd.shareOf(person, now.town.people);
        int common = divisor(part, all);
        return (low ? all : part) / common;
    }

    public int slips(int n, boolean low) {
        if (!within(n, 1, MOST_SNOW)) {
            return NONE;
        }
        int tip = now.town.tipNow();
        int bound = now.town.tipsNow();
        int slipping = 0;
        for (int set = 0; set < SNOWS; set++) {
            if (Math.abs(tip + n * armsOf(set)) > bound) {
                slipping++;
            }
        }
        int common = divisor(slipping, SNOWS);
        return (low ? SNOWS : slipping) / common;
    }

    public int halves(int what) {
        if (!within(what, 0, 1)) {
            return NONE;
        }
        int everybody = (1 << now.town.people) - 1;
        int all = now.town.weightOf(everybody);
        int least = all;
        int lowest = 0;
        for (int set = 0; set <= everybody; set++) {
            int more = Math.abs(all - 2 * now.town.weightOf(set));
            if (more < least) {
                least = more;
                lowest = set;
            }
        }
        return what == 0 ? least : lowest;
    }

    public int level(int i) {
        if (i < NONE) {
            return NO_ANSWER;
        }
        trial.copyFrom(now.town);
        int ways = 0;
        for (int standing = 0; standing < POWERS[trial.people]; standing++) {
            trial.standAs(standing);
            if (trial.tipNow() == 0) {
                if (ways == i) {
                    return standing;
                }
                ways++;
            }
        }
        return i == NONE ? ways : NO_ANSWER;
    }

    public int swap(boolean what) {
        Town town = now.town;
        int best = NO_TIP;
        int who = NONE;
        for (int one = 0; one < town.people; one++) {
            for (int other = one + 1; other < town.people; other++) {
                int tip = town.tipSwapped(one, other);
                if (who == NONE || Math.abs(tip) < Math.abs(best)) {
                    best = tip;
                    who = 10 * one + other;
                }
            }
        }
        return what ? who : best;
    }

    public int send(int weight) {
        if (!within(weight, 1, MOST_WEIGHT)) {
            return NONE;
        }
        int tip = now.town.tipNow();
        int best = 0;
        for (int place = 1; place < PLACES; place++) {
            if (Math.abs(tip + weight * (place - STONE)) < Math.abs(tip + weight * (best - STONE))) {
                best = place;
            }
        }
        return best;
    }

    public int said(int person, int slides) {
        if (person == NONE) {
            now.saidCount = 0;
            return 0;
        }
        if (!now.town.has(person) || !within(slides, 0, SLIDES_MOST)) {
            return NO_ANSWER;
        }
        return now.hear(person, slides);
    }

    public int whose() {
        int lawful = 0;
        for (int i = 0; i < now.textCount; i++) {
            if (now.agrees(now.texts[i])) {
                lawful |= 1 << i;
            }
        }
        return lawful;
    }

    public int free(int person) {
        if (!now.town.has(person)) {
            return NONE;
        }
        trial.copyFrom(now.town);
        int ways = trial.go(person, false) ? 1 : 0;
        trial.copyFrom(now.town);
        return trial.go(person, true) ? ways + 2 : ways;
    }

    public int lone() {
        int alone = 0;
        for (int place = 0; place < PLACES; place++) {
            int there = now.town.peopleAt(place);
            if (Integer.bitCount(there) == 1) {
                alone |= there;
            }
        }
        return alone;
    }

    public int heaviest() {
        int best = NONE;
        int most = 0;
        for (int place = 0; place < PLACES; place++) {
            int weight = now.town.weightAt(place);
            if (weight > most) {
                most = weight;
                best = place;
            }
        }
        return best;
    }

    public int travelled() {
        int best = NONE;
        int most = 0;
        for (int person = 0; person < now.town.people; person++) {
            int times = now.town.timesWritten(person);
            if (times > most) {
                most = times;
                best = person;
            }
        }
        return best;
    }

    public int ledger(int person) {
        if (person == NONE) {
            return now.town.written;
        }
        return now.town.has(person) ? now.town.timesWritten(person) : NO_ANSWER;
    }

    public int image() {
        kept.copyFrom(now);
        return now.town.hour;
    }

    public int back() {
        now.copyFrom(kept);
        return now.town.hour;
    }

    public int about(int what) {
        switch (what) {
            case 0: return now.town.people;
            case 1: return now.hands.count;
            case 2: return now.textCount;
            case 3: return now.ruling;
            case 4: return now.steps.count;
            case 5: return now.saidCount;
            case 6: return tape.length;
            default: return NO_ANSWER;
        }
    }

    private Search explored(boolean pairs, boolean toGoals) {
        if (search == null) {
            search = new Search();
        }
        trial.copyFrom(now.town);
        search.explore(trial, pairs, toGoals);
        return search;
    }

    private static boolean within(int value, int low, int high) {
        return value >= low && value <= high;
    }

    private static boolean holds(int set, int member) {
        return (set >> member & 1) == 1;
    }

    private static int armsOf(int set) {
        int arms = 0;
        for (int place = 0; place < PLACES; place++) {
            if (holds(set, place)) {
                arms += place - STONE;
            }
        }
        return arms;
    }

    /** The greatest number that divides both, 1 at least, so that one may always divide by it. */
    private static int divisor(int a, int b) {
        int high = Math.abs(a);
        int low = Math.abs(b);
        for (int i = 0; i < 64 && low != 0; i++) {
            int rest = high % low;
            high = low;
            low = rest;
        }
        return Math.max(high, 1);
    }

    /** All that an image keeps. */
    private static final class Borough {
        final Town town = new Town();
        final Steps steps = new Steps();
        final Hands hands = new Hands();
        final Text[] texts = new Text[MOST_TEXTS];
        int textCount = 0;
        int ruling = NONE;
        final int[] saidPeople = new int[MOST_SAID];
        final int[] saidSlides = new int[MOST_SAID];
        int saidCount = 0;

        void copyFrom(Borough other) {
            town.copyFrom(other.town);
            steps.copyFrom(other.steps);
            hands.copyFrom(other.hands);
            for (int i = 0; i < MOST_TEXTS; i++) {
                texts[i] = other.texts[i];
            }
            textCount = other.textCount;
            ruling = other.ruling;
            System.arraycopy(other.saidPeople, 0, saidPeople, 0, MOST_SAID);
            System.arraycopy(other.saidSlides, 0, saidSlides, 0, MOST_SAID);
            saidCount = other.saidCount;
        }

        int addText(Text read) {
            if (textCount >= MOST_TEXTS) {
                return NONE;
            }
            texts[textCount] = read;
            textCount++;
            return textCount - 1;
        }

        Text textOf(int number) {
            return within(number, 0, textCount - 1) ? texts[number] : null;
        }

        void rule(int number) {
            ruling = number;
            town.law = textOf(number);
        }

        boolean walks(int person, boolean right) {
            steps.mark(town);
            return steps.keptIf(town.go(person, right));
        }

        boolean walksPaired(int a, boolean right, int b, boolean other) {
            steps.mark(town);
            return steps.keptIf(town.goPaired(a, right, b, other));
        }

        boolean shovels(int place, int n) {
            steps.mark(town);
            return steps.keptIf(town.clear(place, n));
        }

        /** Those of the hours that can pass do: in how many of them it slips. */
        int waits(int hours) {
            int slipped = 0;
            for (int i = 0; i < hours && town.hour < LAST_HOUR; i++) {
                steps.mark(town);
                slipped += town.passHour() ? 1 : 0;
                steps.keptIf(true);
            }
            return slipped;
        }

        /** Does a clause as by hand, laws being no deeds: whether it could be done whole. */
        boolean does(int clause, int first, int second) {
            if (clause == WORD_HOUR) {
                boolean whole = town.hour + first <= LAST_HOUR;
                waits(first);
                return whole;
            }
            switch (clause) {
                case WORD_PERSON: return town.settle(first, second) != NONE;
                case WORD_GOAL: return town.aims(first, second);
                case WORD_LEFT: return walks(first, false);
                case WORD_RIGHT: return walks(first, true);
                case WORD_SHOVEL: return shovels(second, first);
                default: return true;
            }
        }

        int hear(int person, int slides) {
            if (saidCount >= MOST_SAID) {
                return NO_ANSWER;
            }
            saidPeople[saidCount] = person;
            saidSlides[saidCount] = slides;
            saidCount++;
            return saidCount;
        }

        boolean agrees(Text law) {
            for (int i = 0; i < saidCount; i++) {
                if (town.slidesBy(law, saidPeople[i]) != saidSlides[i]) {
                    return false;
                }
            }
            return true;
        }
    }

    /** The beam with people and snow on it, its hour, its draws and its book, under a law (null: none). */
    private static final class Town {
        int people = 0;
        final int[] weights = new int[PEOPLE];
        final int[] spots = new int[PEOPLE];
        final int[] goals = new int[PEOPLE];
        final int[] snow = new int[PLACES];
        int hour = 0;
        int x = FIRST_X;
        final int[] entries = new int[MOST_WRITTEN];
        int written = 0;
        Text law = null;
        /** What a law's names say, told anew each time that a law is asked. */
        final int[] names = new int[NAMES];

        void copyFrom(Town other) {
            people = other.people;
            System.arraycopy(other.weights, 0, weights, 0, PEOPLE);
            System.arraycopy(other.spots, 0, spots, 0, PEOPLE);
            System.arraycopy(other.goals, 0, goals, 0, PEOPLE);
            System.arraycopy(other.snow, 0, snow, 0, PLACES);
            hour = other.hour;
            x = other.x;
            System.arraycopy(other.entries, 0, entries, 0, MOST_WRITTEN);
            written = other.written;
            law = other.law;
        }

        boolean has(int person) {
            return within(person, 0, people - 1);
        }

        int settle(int weight, int place) {
            if (people >= PEOPLE) {
                return NONE;
            }
            weights[people] = weight;
            spots[people] = place;
            goals[people] = NONE;
            people++;
            return people - 1;
        }

        boolean aims(int person, int place) {
            if (!has(person)) {
                return false;
            }
            goals[person] = place;
            return true;
        }

        int tipNow() {
            int tip = 0;
            for (int person = 0; person < people; person++) {
                tip += weights[person] * (spots[person] - STONE);
            }
            for (int place = 0; place < PLACES; place++) {
                tip += snow[place] * (place - STONE);
            }
            return tip;
        }

        int tipSwapped(int one, int other) {
            return tipNow() + (weights[one] - weights[other]) * (spots[other] - spots[one]);
        }

        /** The weight of a set of people (bits), without snow. */
        int weightOf(int set) {
            int weight = 0;
            for (int person = 0; person < people; person++) {
                if (holds(set, person)) {
                    weight += weights[person];
                }
            }
            return weight;
        }

        int weightOfAll() {
            int weight = 0;
            for (int person = 0; person < people; person++) {
                weight += weights[person];
            }
            for (int place = 0; place < PLACES; place++) {
                weight += snow[place];
            }
            return weight;
        }

        int peopleAt(int place) {
            int there = 0;
            for (int person = 0; person < people; person++) {
                if (spots[person] == place) {
                    there |= 1 << person;
                }
            }
            return there;
        }

        int weightAt(int place) {
            if (place < 0 || place >= PLACES) {
                return 0;
            }
            int weight = snow[place];
            for (int person = 0; person < people; person++) {
                weight += spots[person] == place ? weights[person] : 0;
            }
            return weight;
        }

        /** Tells the names, those of a person only if there is one, all in one pass: laws are asked most often. */
        void tellNames(int person) {
            int tip = 0;
            int weight = 0;
            for (int i = 0; i < people; i++) {
                tip += weights[i] * (spots[i] - STONE);
                weight += weights[i];
            }
            int lying = 0;
            for (int place = 0; place < PLACES; place++) {
                tip += snow[place] * (place - STONE);
                lying += snow[place];
            }
            names[NAME_HOUR] = hour;
            names[NAME_TIP] = tip;
            names[NAME_ALL] = weight + lying;
            names[NAME_SNOW] = lying;
            boolean told = person >= 0 && person < people;
            names[NAME_WHO] = told ? person : 0;
            names[NAME_WEIGHT] = told ? weights[person] : 0;
            names[NAME_PLACE] = told ? spots[person] : 0;
        }

        int tipsNow() {
            if (law == null || law.tips == null) {
                return TIPS_WITHOUT;
            }
            return Math.min(Math.max(law.tips.valueFor(this, NONE), 0), TIPS_MOST);
        }

        /** How far a person slides by a law that need not be the town's own. */
        int slidesBy(Text rules, int person) {
            if (rules == null || rules.slides == null) {
                return SLIDES_WITHOUT;
            }
            return Math.min(Math.max(rules.slides.valueFor(this, person), 0), SLIDES_MOST);
        }

        boolean holdsStill() {
            return Math.abs(tipNow()) <= tipsNow();
        }

        /** Puts a person beside where it is, if there is such a place, whatever the tip. */
        boolean shift(int person, boolean right) {
            if (!has(person)) {
                return false;
            }
            int to = spots[person] + (right ? 1 : -1);
            if (!within(to, 0, PLACES - 1)) {
                return false;
            }
            spots[person] = to;
            return true;
        }

        boolean go(int person, boolean right) {
            if (!has(person)) {
                return false;
            }
            int from = spots[person];
            if (shift(person, right) && holdsStill()) {
                return true;
            }
            spots[person] = from;
            return false;
        }

        boolean goPaired(int a, boolean right, int b, boolean other) {
            if (a == b || !has(a) || !has(b)) {
                return false;
            }
            int fromA = spots[a];
            int fromB = spots[b];
            if (shift(a, right) && shift(b, other) && holdsStill()) {
                return true;
            }
            spots[a] = fromA;
            spots[b] = fromB;
            return false;
        }

        boolean clear(int place, int n) {
            if (snow[place] < n) {
                return false;
            }
            snow[place] -= n;
            if (holdsStill()) {
                return true;
            }
            snow[place] += n;
            return false;
        }

        int draw() {
            int drawn = x;
            x = (x * FACTOR + ADDEND) % MODULUS;
            return drawn;
        }

        /** An hour, which the caller has seen to be able to pass: whether it slips. */
        boolean passHour() {
            int place = draw() % PLACES;
            snow[place] = Math.min(snow[place] + 1, MOST_SNOW);
            int tip = tipNow();
            boolean slipping = Math.abs(tip) > tipsNow();
            if (slipping) {
                slideAll(tip > 0);
            }
            hour++;
            return slipping;
        }

        void slideAll(boolean right) {
            for (int person = 0; person < people; person++) {
                int from = spots[person];
                int far = slidesBy(law, person);
                int to = right ? Math.min(from + far, PLACES - 1) : Math.max(from - far, 0);
                if (to != from) {
                    write(person, from, to);
                    spots[person] = to;
                }
            }
        }

        void write(int person, int from, int to) {
            if (written >= MOST_WRITTEN) {
                System.arraycopy(entries, 1, entries, 0, MOST_WRITTEN - 1);
                written = MOST_WRITTEN - 1;
            }
            entries[written] = ((hour * PEOPLE + person) * PLACES + from) * PLACES + to;
            written++;
        }

        int entry(int i, int what) {
            if (!within(i, 0, written - 1)) {
                return NO_ANSWER;
            }
            switch (what) {
                case 0: return entries[i] / (PLACES * PLACES * PEOPLE);
                case 1: return entries[i] / (PLACES * PLACES) % PEOPLE;
                case 2: return entries[i] / PLACES % PLACES;
                case 3: return entries[i] % PLACES;
                default: return NO_ANSWER;
            }
        }

        int timesWritten(int person) {
            int times = 0;
            for (int i = 0; i < written; i++) {
                if (entry(i, 1) == person) {
                    times++;
                }
            }
            return times;
        }

        /** What a year's draw brings, if it can be. */
        void happen(int drawn) {
            int kind = drawn % 6;
            if (kind == 2) {
                clear(drawn / 6 % PLACES, 1);
            } else if (kind > 3) {
                if (hour < LAST_HOUR) {
                    passHour();
                }
            } else if (people > 0) {
                int person = drawn % people;
                if (kind == 3) {
                    goPaired(person, false, drawn / 6 % people, true);
                } else {
                    go(person, kind == 1);
                }
            }
        }

        /** The places of all as digits of a number by 9. */
        int standing() {
            int number = 0;
            for (int person = 0; person < people; person++) {
                number += spots[person] * POWERS[person];
            }
            return number;
        }

        void standAs(int number) {
            for (int person = 0; person < people; person++) {
                spots[person] = number / POWERS[person] % PLACES;
            }
        }

        boolean allHome() {
            for (int person = 0; person < people; person++) {
                if (goals[person] != NONE && goals[person] != spots[person]) {
                    return false;
                }
            }
            return true;
        }
    }

    /** The latest steps: rows of all that a step can change, as it was ahead of it. */
    private static final class Steps {
        // One row more than are kept, so that a row can be marked ahead of a step that may not come to be.
        private static final int ROWS = MOST_STEPS + 1;
        private static final int ROW = 1 + PEOPLE + PLACES + 3 + MOST_WRITTEN;

        final int[] rows = new int[ROWS * ROW];
        int first = 0;
        int count = 0;

        void copyFrom(Steps other) {
            System.arraycopy(other.rows, 0, rows, 0, ROWS * ROW);
            first = other.first;
            count = other.count;
        }

        void mark(Town town) {
            int at = (first + count) % ROWS * ROW;
            rows[at] = town.people;
            rows[at + 1] = town.hour;
            rows[at + 2] = town.x;
            rows[at + 3] = town.written;
            System.arraycopy(town.spots, 0, rows, at + 4, PEOPLE);
            System.arraycopy(town.snow, 0, rows, at + 4 + PEOPLE, PLACES);
            System.arraycopy(town.entries, 0, rows, at + 4 + PEOPLE + PLACES, MOST_WRITTEN);
        }

        /** The row marked last becomes a step if it was done. */
        boolean keptIf(boolean done) {
            if (done && count < MOST_STEPS) {
                count++;
            } else if (done) {
                first = (first + 1) % ROWS;
            }
            return done;
        }

        int takeBack(Town town) {
            if (count == 0) {
                return NONE;
            }
            count--;
            int at = (first + count) % ROWS * ROW;
            town.hour = rows[at + 1];
            town.x = rows[at + 2];
            town.written = rows[at + 3];
            // Who was told since the step stands where told: every later step has been taken back already.
            System.arraycopy(rows, at + 4, town.spots, 0, rows[at]);
            System.arraycopy(rows, at + 4 + PEOPLE, town.snow, 0, PLACES);
            System.arraycopy(rows, at + 4 + PEOPLE + PLACES, town.entries, 0, MOST_WRITTEN);
            return count;
        }
    }

    /** Those who can be paid to stand on the beam. */
    private static final class Hands {
        final int[] weights = new int[MOST_HANDS];
        final int[] wages = new int[MOST_HANDS];
        final int[] seats = new int[MOST_HANDS];
        int count = 0;

        void copyFrom(Hands other) {
            System.arraycopy(other.weights, 0, weights, 0, MOST_HANDS);
            System.arraycopy(other.wages, 0, wages, 0, MOST_HANDS);
            count = other.count;
        }

        int hire(int weight, int wage) {
            if (count >= MOST_HANDS) {
                return NONE;
            }
            weights[count] = weight;
            wages[count] = wage;
            count++;
            return count - 1;
        }

        int wageOf(int set) {
            int wage = 0;
            for (int hand = 0; hand < count; hand++) {
                if (holds(set, hand)) {
                    wage += wages[hand];
                }
            }
            return wage;
        }

        /** The set that levels the tip for the least, its seats being set; NONE if no set does. */
        int cheapest(int tip) {
            int best = NONE;
            for (int set = 0; set < 1 << count; set++) {
                if ((best == NONE || isCheaper(set, best)) && seat(set, tip)) {
                    best = set;
                }
            }
            if (best != NONE) {
                seat(best, tip);
            }
            return best;
        }

        private boolean isCheaper(int set, int than) {
            int wage = wageOf(set);
            int least = wageOf(than);
            return wage < least || wage == least && Integer.bitCount(set) < Integer.bitCount(than);
        }

        /** Finds the lowest seats by which the set levels the tip: whether there are any. */
        private boolean seat(int set, int tip) {
            int ways = POWERS[Integer.bitCount(set)];
            for (int way = 0; way < ways; way++) {
                if (tip + tipSeated(set, way) == 0) {
                    return true;
                }
            }
            return false;
        }

        /** Seats the set by the digits of a number, the lowest hand having the highest one. */
        private int tipSeated(int set, int way) {
            int rest = way;
            int tip = 0;
            for (int hand = count - 1; hand >= 0; hand--) {
                if (holds(set, hand)) {
                    seats[hand] = rest % PLACES;
                    rest /= PLACES;
                    tip += weights[hand] * (seats[hand] - STONE);
                }
            }
            return tip;
        }
    }

    /** What there is to say of every set of people (bits). */
    private static final class Crowd {
        final int[] tips = new int[SETS];
        final long[] ways = new long[SETS];
        final boolean[] wins = new boolean[SETS];
        int bound = 0;
        int everybody = 0;

        void weigh(Town town) {
            bound = town.tipsNow();
            everybody = (1 << town.people) - 1;
            int whole = town.tipNow();
            for (int set = 0; set <= everybody; set++) {
                tips[set] = whole;
                for (int person = 0; person < town.people; person++) {
                    if (!holds(set, person)) {
                        tips[set] -= town.weights[person] * (town.spots[person] - STONE);
                    }
                }
            }
            for (int set = 0; set <= everybody; set++) {
                judge(set);
            }
        }

        /** The lesser sets have been judged already. */
        private void judge(int set) {
            ways[set] = set == 0 ? 1 : 0;
            wins[set] = false;
            for (int person = 0; person < PEOPLE; person++) {
                if (canLeave(set, person)) {
                    int rest = set - (1 << person);
                    ways[set] += ways[rest];
                    wins[set] |= !wins[rest];
                }
            }
        }

        private boolean canLeave(int set, int person) {
            return holds(set, person) && Math.abs(tips[set - (1 << person)]) <= bound;
        }

        int winningFirst() {
            for (int person = 0; person < PEOPLE; person++) {
                if (canLeave(everybody, person) && !wins[everybody - (1 << person)]) {
                    return person;
                }
            }
            return NONE;
        }

        /** Who goes off as the i-th in the lowest order. */
        int goingOff(int i) {
            int set = everybody;
            int leaving = NO_ANSWER;
            for (int k = 0; k <= i && set != 0; k++) {
                leaving = nextOff(set);
                if (leaving == NO_ANSWER) {
                    return NO_ANSWER;
                }
                set -= 1 << leaving;
            }
            return leaving;
        }

        private int nextOff(int set) {
            for (int person = 0; person < PEOPLE; person++) {
                if (canLeave(set, person) && ways[set - (1 << person)] > 0) {
                    return person;
                }
            }
            return NO_ANSWER;
        }

        /** A person's share, taken together over all orders. */
        int shareOf(int person, int people) {
            int sum = 0;
            for (int set = 0; set <= everybody; set++) {
                if (!holds(set, person)) {
                    int ahead = Integer.bitCount(set);
                    int orders = FACTORIALS[ahead] * FACTORIALS[people - 1 - ahead];
                    sum += orders * (Math.abs(tips[set | 1 << person]) - Math.abs(tips[set]));
                }
            }
            return sum;
        }
    }

    /** Goings from where all stand now, the nearest standings first and of those the lowest goings first. */
    private static final class Search {
        private static final int UNSEEN = -1;
        private static final int BARRED = -2;
        private static final int START = -3;

        /** By which going from which standing each was first come to, in one number. */
        final int[] trace = new int[STANDINGS];
        final int[] queue = new int[STANDINGS];
        int reached = 0;
        int goal = NONE;

        void explore(Town town, boolean pairs, boolean toGoals) {
            Arrays.fill(trace, 0, POWERS[town.people], UNSEEN);
            reached = 0;
            goal = NONE;
            come(town, town.standing(), START);
            for (int head = 0; head < STANDINGS && head < reached && !(toGoals && goal != NONE); head++) {
                expand(town, queue[head], pairs);
            }
        }

        /** Each standing is come to once, so that the queue holds them all. */
        private void come(Town town, int standing, int by) {
            if (reached >= STANDINGS) {
                return;
            }
            trace[standing] = by;
            queue[reached] = standing;
            reached++;
            if (goal == NONE && town.allHome()) {
                goal = standing;
            }
        }

        private void expand(Town town, int from, boolean pairs) {
            int goings = pairs ? GOINGS : SINGLES;
            for (int going = 0; going < goings; going++) {
                int to = leadsTo(town.people, from, going);
                if (to != NONE && trace[to] == UNSEEN) {
                    town.standAs(to);
                    if (town.holdsStill()) {
                        come(town, to, from * GOINGS + going);
                    } else {
                        trace[to] = BARRED;
                    }
                }
            }
        }

        /** The standing that a going leads to; NONE if there is no such going. */
        private static int leadsTo(int people, int from, int going) {
            if (going < SINGLES) {
                return shifted(people, from, going / 2, going % 2 == 1);
            }
            int both = going - FIRST_PAIR;
            int a = both / 16;
            int b = both / 2 % 4;
            if (both < 0 || a >= b) {
                return NONE;
            }
            int between = shifted(people, from, a, both / 8 % 2 == 1);
            return between == NONE ? NONE : shifted(people, between, b, both % 2 == 1);
        }

        private static int shifted(int people, int from, int person, boolean right) {
            if (person >= people) {
                return NONE;
            }
            int place = from / POWERS[person] % PLACES;
            if (place == (right ? PLACES - 1 : 0)) {
                return NONE;
            }
            return right ? from + POWERS[person] : from - POWERS[person];
        }

        int goingsToGoals() {
            if (goal == NONE) {
                return NO_ANSWER;
            }
            int goings = 0;
            int at = goal;
            for (int i = 0; i < STANDINGS && trace[at] != START; i++) {
                at = trace[at] / GOINGS;
                goings++;
            }
            return goings;
        }

        int goingToGoals(int i) {
            int goings = goingsToGoals();
            if (!within(i, 0, goings - 1)) {
                return NO_ANSWER;
            }
            int at = goal;
            for (int k = goings - 1; k > i; k--) {
                at = trace[at] / GOINGS;
            }
            return trace[at] % GOINGS;
        }
    }

    /** A text that was read: its laws (null: without) and its clauses in their order. */
    private static final class Text {
        final Law tips;
        final Law slides;
        final int[] kinds;
        final int[] firsts;
        final int[] seconds;

        Text(Law tips, Law slides, int[] kinds, int[] firsts, int[] seconds) {
            this.tips = tips;
            this.slides = slides;
            this.kinds = kinds;
            this.firsts = firsts;
            this.seconds = seconds;
        }
    }

    /** A sum as code for a stack; it skips forwards only, so that it always ends. */
    private static final class Law {
        // Each of nine levels can leave one of or, and, a question, a sum and a product waiting.
        private static final int DEPTH = 64;

        final int[] code;
        final int[] stack = new int[DEPTH];

        Law(int[] code) {
            this.code = code;
        }

        int valueFor(Town town, int person) {
            town.tellNames(person);
            int top = 0;
            int next = 0;
            for (int i = 0; i < code.length && next < code.length; i++) {
                int op = code[next] & OP_MASK;
                int with = code[next] >> OP_BITS;
                next++;
                if (op == OP_NUMBER && top < DEPTH) {
                    stack[top] = with;
                    top++;
                } else if (op == OP_NAME && top < DEPTH && with < NAMES) {
                    stack[top] = town.names[with];
                    top++;
                } else if (op == OP_SKIP) {
                    next = with > next ? with : next;
                } else if (op == OP_SKIP_UNLESS && top > 0) {
                    top--;
                    next = stack[top] == 0 && with > next ? with : next;
                } else if (op == OP_LOAD && top > 0) {
                    stack[top - 1] = town.weightAt(stack[top - 1]);
                } else if (op < OP_ADD && top > 0) {
                    stack[top - 1] = ofOne(op, stack[top - 1]);
                } else if (op >= OP_ADD && top > 1) {
                    top--;
                    stack[top - 1] = ofTwo(op, stack[top - 1], stack[top]);
                }
            }
            return top > 0 ? stack[top - 1] : 0;
        }

        private static int ofOne(int op, int a) {
            switch (op) {
                case OP_NEGATE: return -a;
                case OP_SIGN: return a > 0 ? 1 : a < 0 ? -1 : 0;
                default: return a == 0 ? 1 : 0;
            }
        }

        private static int ofTwo(int op, int a, int b) {
            switch (op) {
                case OP_BELOW: return a < b ? 1 : 0;
                case OP_AT_MOST: return a <= b ? 1 : 0;
                case OP_ABOVE: return a > b ? 1 : 0;
                case OP_AT_LEAST: return a >= b ? 1 : 0;
                case OP_LIKE: return a == b ? 1 : 0;
                case OP_UNLIKE: return a != b ? 1 : 0;
                case OP_OR: return a | b;
                case OP_AND: return a & b;
                default: break;
            }
            long value;
            switch (op) {
                case OP_ADD: value = (long) a + b; break;
                case OP_SUBTRACT: value = (long) a - b; break;
                case OP_MULTIPLY: value = (long) a * b; break;
                default: value = b == 0 ? 0 : a / b;
            }
            return value > BOUND ? BOUND : value < -BOUND ? -BOUND : (int) value;
        }
    }

    /** The bytes that were fed, and the tokens that they were cut into last. */
    private static final class Tape {
        final int[] bytes = new int[MOST_BYTES];
        int length = 0;
        final int[] kinds = new int[MOST_BYTES + 1];
        final int[] starts = new int[MOST_BYTES + 1];
        final int[] values = new int[MOST_BYTES + 1];
        int tokens = 0;

        void append(int four) {
            for (int shift = 24; shift >= 0 && length < MOST_BYTES; shift -= 8) {
                bytes[length] = four >> shift & 255;
                length++;
            }
        }

        /** Cuts all bytes into tokens, of which the last is FINISH. */
        void cut() {
            tokens = 0;
            int next = 0;
            for (int i = 0; i < MOST_BYTES && next < length; i++) {
                next = isBlank(bytes[next]) ? next + 1 : cutOne(next);
            }
            add(FINISH, length, 0);
        }

        private void add(int kind, int start, int value) {
            if (tokens <= MOST_BYTES) {
                kinds[tokens] = kind;
                starts[tokens] = start;
                values[tokens] = value;
                tokens++;
            }
        }

        /** Each of these cuts one token: where it ends. */
        private int cutOne(int start) {
            if (isDigit(bytes[start])) {
                return cutNumber(start);
            }
            return isLetter(bytes[start]) ? cutWord(start) : cutSign(start);
        }

        private int cutNumber(int start) {
            int value = 0;
            int next = start;
            for (int i = start; i < length && isDigit(bytes[i]); i++) {
                // One above the highest number says enough of all that are higher.
                value = Math.min(value * 10 + bytes[i] - '0', MOST_NUMBER + 1);
                next = i + 1;
            }
            add(NUMBER, start, value);
            return next;
        }

        private int cutWord(int start) {
            int next = start;
            for (int i = start; i < length && isLetter(bytes[i]); i++) {
                next = i + 1;
            }
            add(wordAt(start, next), start, 0);
            return next;
        }

        private int wordAt(int start, int next) {
            int word = FIRST_WORD;
            int at = start;
            boolean like = true;
            for (int i = 0; i < WORDS.length(); i++) {
                char letter = WORDS.charAt(i);
                if (letter == ' ') {
                    if (like && at == next) {
                        return word;
                    }
                    word++;
                    at = start;
                    like = true;
                } else if (like && at < next && bytes[at] == letter) {
                    at++;
                } else {
                    like = false;
                }
            }
            return UNKNOWN;
        }

        private int cutSign(int start) {
            int sign = bytes[start];
            boolean orLike = start + 1 < length && bytes[start + 1] == '=';
            if (orLike && (sign == '<' || sign == '>')) {
                add(sign == '<' ? AT_MOST : AT_LEAST, start, 0);
                return start + 2;
            }
            add(isSign(sign) ? sign : UNKNOWN, start, 0);
            return start + 1;
        }

        private static boolean isSign(int b) {
            return SIGNS.indexOf((char) b) >= 0;
        }

        private static boolean isBlank(int b) {
            return b == ' ' || b == '\n';
        }

        private static boolean isDigit(int b) {
            return b >= '0' && b <= '9';
        }

        private static boolean isLetter(int b) {
            return b >= 'a' && b <= 'z' || b >= 'A' && b <= 'Z';
        }
    }

    /** Reads the tape as a text. Each part answers whether it stands there, or else has told its fault. */
    private static final class Reader {
        final Tape tape = new Tape();
        final int[] kinds = new int[MOST_CLAUSES];
        final int[] firsts = new int[MOST_CLAUSES];
        final int[] seconds = new int[MOST_CLAUSES];
        final int[] code = new int[MOST_BYTES];
        int at = 0;
        int clauses = 0;
        int codeLength = 0;
        boolean inSlides = false;
        Law tips = null;
        Law slides = null;
        int fault = NONE;
        int faultPlace = NONE;

        /** The text, or null if it has a fault. */
        Text read() {
            at = 0;
            clauses = 0;
            tips = null;
            slides = null;
            fault = 0;
            faultPlace = NONE;
            tape.cut();
            for (int i = 0; i <= MOST_CLAUSES && kind() != FINISH; i++) {
                if (!clause()) {
                    return null;
                }
            }
            return new Text(tips, slides, Arrays.copyOf(kinds, clauses), Arrays.copyOf(firsts, clauses),
                    Arrays.copyOf(seconds, clauses));
        }

        private int kind() {
            return tape.kinds[at];
        }

        /** FINISH is never left, so that there is a token at every time. */
        private void advance() {
            if (at + 1 < tape.tokens) {
                at++;
            }
        }

        private boolean refuse(int why) {
            fault = why;
            faultPlace = tape.starts[at];
            return false;
        }

        private boolean expect(int kind) {
            if (kind() != kind) {
                return refuse(FAULT_GRAMMAR);
            }
            advance();
            return true;
        }

        private boolean clause() {
            int word = kind();
            if (!within(word, WORD_TIPS, WORD_HOUR)) {
                return refuse(FAULT_GRAMMAR);
            }
            if (word == WORD_TIPS && tips != null || word == WORD_SLIDES && slides != null) {
                return refuse(FAULT_TWICE);
            }
            if (clauses >= MOST_CLAUSES) {
                return refuse(FAULT_CLAUSES);
            }
            kinds[clauses] = word;
            firsts[clauses] = 0;
            seconds[clauses] = 0;
            codeLength = 0;
            inSlides = word == WORD_SLIDES;
            advance();
            boolean stands = word <= WORD_SLIDES ? sum(0) : numbers(word);
            if (!stands || !expect(';')) {
                return false;
            }
            keepLaw(word);
            clauses++;
            return true;
        }

        private void keepLaw(int word) {
            if (word == WORD_TIPS) {
                tips = new Law(Arrays.copyOf(code, codeLength));
            } else if (word == WORD_SLIDES) {
                slides = new Law(Arrays.copyOf(code, codeLength));
            }
        }

        private boolean numbers(int word) {
            switch (word) {
                case WORD_PERSON: return number(firsts, 1, MOST_WEIGHT) && placed();
                case WORD_GOAL: return number(firsts, 0, PEOPLE - 1) && placed();
                case WORD_SHOVEL: return number(firsts, 1, MOST_SNOW) && placed();
                case WORD_HOUR: return number(firsts, 1, MOST_HOURS);
                default: return number(firsts, 0, PEOPLE - 1);
            }
        }

        private boolean placed() {
            return expect(WORD_AT) && number(seconds, 0, PLACES - 1);
        }

        private boolean number(int[] into, int low, int high) {
            if (kind() != NUMBER) {
                return refuse(FAULT_GRAMMAR);
            }
            if (!within(tape.values[at], low, high)) {
                return refuse(FAULT_NUMBER);
            }
            into[clauses] = tape.values[at];
            advance();
            return true;
        }

        /** Puts an operation behind the code: where it stands. */
        private int emit(int op, int with) {
            if (codeLength < MOST_BYTES) {
                code[codeLength] = with << OP_BITS | op;
                codeLength++;
            }
            return codeLength - 1;
        }

        private boolean sum(int open) {
            boolean stands = product(open);
            for (int i = 0; i < MOST_BYTES && stands && (kind() == '+' || kind() == '-'); i++) {
                int op = kind() == '+' ? OP_ADD : OP_SUBTRACT;
                advance();
                stands = product(open);
                emit(op, 0);
            }
            return stands;
        }

        private boolean product(int open) {
            boolean stands = one(open);
            for (int i = 0; i < MOST_BYTES && stands && (kind() == '*' || kind() == '/'); i++) {
                int op = kind() == '*' ? OP_MULTIPLY : OP_DIVIDE;
                advance();
                stands = one(open);
                emit(op, 0);
            }
            return stands;
        }

        private boolean one(int open) {
            int kind = kind();
            if (kind == NUMBER) {
                return numeral();
            }
            if (within(kind, WORD_HOUR, WORD_PLACE)) {
                return name(kind);
            }
            if (kind != '(' && kind != '-' && kind != WORD_SIGN && kind != WORD_LOAD && kind != WORD_IF) {
                return refuse(FAULT_GRAMMAR);
            }
            if (open >= MOST_OPEN) {
                return refuse(FAULT_DEPTH);
            }
            advance();
            if (kind == '(') {
                return sum(open + 1) && expect(')');
            }
            if (kind == WORD_IF) {
                return choice(open + 1);
            }
            boolean stands = one(open + 1);
            emit(kind == '-' ? OP_NEGATE : kind == WORD_SIGN ? OP_SIGN : OP_LOAD, 0);
            return stands;
        }

        private boolean numeral() {
            if (tape.values[at] > MOST_NUMBER) {
                return refuse(FAULT_NUMBER);
            }
            emit(OP_NUMBER, tape.values[at]);
            advance();
            return true;
        }

        private boolean name(int word) {
            if (word >= WORD_WHO && !inSlides) {
                return refuse(FAULT_NAME);
            }
            emit(OP_NAME, word - WORD_HOUR);
            advance();
            return true;
        }

        private boolean choice(int open) {
            if (!either(open) || !expect(WORD_THEN)) {
                return false;
            }
            int unless = emit(OP_SKIP_UNLESS, 0);
            if (!sum(open) || !expect(WORD_ELSE)) {
                return false;
            }
            int over = emit(OP_SKIP, 0);
            aim(unless);
            if (!sum(open) || !expect(WORD_END)) {
                return false;
            }
            aim(over);
            return true;
        }

        /** Lets a skip lead to what is put next. */
        private void aim(int skip) {
            if (within(skip, 0, codeLength - 1)) {
                code[skip] = codeLength << OP_BITS | code[skip] & OP_MASK;
            }
        }

        private boolean either(int open) {
            boolean stands = both(open);
            for (int i = 0; i < MOST_BYTES && stands && kind() == WORD_OR; i++) {
                advance();
                stands = both(open);
                emit(OP_OR, 0);
            }
            return stands;
        }

        private boolean both(int open) {
            boolean stands = ask(open);
            for (int i = 0; i < MOST_BYTES && stands && kind() == WORD_AND; i++) {
                advance();
                stands = ask(open);
                emit(OP_AND, 0);
            }
            return stands;
        }

        private boolean ask(int open) {
            if (kind() == WORD_NOT) {
                return denial(open);
            }
            if (!sum(open)) {
                return false;
            }
            int op = comparison(kind());
            if (op == NONE) {
                return refuse(FAULT_GRAMMAR);
            }
            advance();
            boolean stands = sum(open);
            emit(op, 0);
            return stands;
        }

        private boolean denial(int open) {
            if (open >= MOST_OPEN) {
                return refuse(FAULT_DEPTH);
            }
            advance();
            boolean stands = ask(open + 1);
            emit(OP_NOT, 0);
            return stands;
        }

        private static int comparison(int kind) {
            switch (kind) {
                case '<': return OP_BELOW;
                case AT_MOST: return OP_AT_MOST;
                case '>': return OP_ABOVE;
                case AT_LEAST: return OP_AT_LEAST;
                case '=': return OP_LIKE;
                case '#': return OP_UNLIKE;
                default: return NONE;
            }
        }
    }
}
