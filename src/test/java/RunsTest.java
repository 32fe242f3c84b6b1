import java.util.Random;

/**
 * Runs of calls by a fixed row of draws, wild arguments among them: every answer of the class is
 * held against that of PlainWords, and nothing may be thrown.
 */
public final class RunsTest {
    private static final int CALLS = 512;
    private static final String[] CALL_NAMES = {
        "state", "word", "person", "set", "kin", "miles", "say", "move", "teach", "carve", "days",
        "feed", "end", "text", "fault", "of", "who", "asks", "book", "goes", "misses", "wording",
        "go", "keepers", "costs", "round", "quarrel", "talk", "spoke", "grasps", "circle", "odds",
        "school", "verse", "boast", "crowd", "silence", "undo", "image", "look",
    };
    private static final int[] WILD = {-2, -1, 0, 1, 2, 5, 6, 7, 9, 10, 11, 12, 13, 14, 15, 16, 17, 20, 21, 60, 61,
        99, 100, 400, 401, 999, 1000, 1001, 1023, 1024, 9999, 10000, Integer.MAX_VALUE, Integer.MIN_VALUE, -10};

    private final Due due;
    private final Random random;
    private final UnsaidWords x = new UnsaidWords();
    private final PlainWords y = new PlainWords();
    private int left = CALLS;
    /** How many WORDS this run may come to; with few the dear questions are cheap in PlainWords. */
    private final int wordsMost;
    /** Of a hundred arguments so many are wild. */
    private final int wild;
    /** Some runs are where DAY is near its most. */
    private final boolean isLate;

    private RunsTest(Due due, int seed) {
        this.due = due;
        random = new Random(seed);
        wordsMost = seed % 10 == 0 ? 14 : 3 + random.nextInt(5);
        wild = seed % 3 == 0 ? 0 : seed % 3 == 1 ? 3 : 15;
        isLate = seed % 50 == 25;
    }

    public static void main(String[] args) {
        int runs = args.length > 0 ? Integer.parseInt(args[0]) : 300;
        int first = args.length > 1 ? Integer.parseInt(args[1]) : 1;
        Due due = new Due("RunsTest");
        for (int seed = first; seed < first + runs && !due.isWrong(); seed++) {
            due.part("run " + seed);
            new RunsTest(due, seed).run();
        }
        due.close();
    }

    private void run() {
        begin();
        while (left > 0 && !due.isWrong()) {
            step();
        }
    }

    private void begin() {
        call("state", random.nextInt(), 0, 0, 0, 0);
        int words = random.nextInt(wordsMost + 1);
        for (int i = 0; i < words; i++) {
            call("word", 1 + random.nextInt(20), 0, 0, 0, 0);
        }
        int people = random.nextInt(11);
        int places = 1 + random.nextInt(3);
        for (int i = 0; i < people; i++) {
            call("person", random.nextInt(places), 0, 0, 0, 0);
        }
        for (int i = 0; i < words * people / 2; i++) {
            call("teach", below(people), below(words), 0, 0, 0);
        }
        for (int i = 0; i < words; i++) {
            call("kin", below(words), below(words), 1, 0, 0);
        }
        for (int k = 0; k < 4; k++) {
            tell(k);
        }
        for (int i = isLate ? 158 + random.nextInt(9) : 0; i > 0; i--) {
            call("days", 60, 0, 0, 0, 0);
        }
    }

    private int below(int n) {
        if (random.nextInt(100) < wild) {
            return WILD[random.nextInt(WILD.length)];
        }
        return n < 1 ? 0 : random.nextInt(n);
    }

    private void step() {
        int words = y.all.words.size();
        int people = y.all.people.size();
        switch (random.nextInt(64)) {
            case 0: call("state", random.nextInt(), 0, 0, 0, 0); break;
            case 1: if (words < wordsMost) call("word", 1 + below(20), 0, 0, 0, 0); break;
            case 2: if (random.nextInt(4) == 0) call("person", below(10), 0, 0, 0, 0); break;
            case 3: call("set", 0, below(10), random.nextInt(3) == 0 ? 0 : below(1001), 0, 0); break;
            case 4: call("set", below(4), below(people), below(100), 0, 0); break;
            case 5: unsaid(below(words)); break;
            case 6: call("kin", below(words), below(words), random.nextInt(3) == 0 ? 0 : 1, 0, 0); break;
            case 7: call("miles", below(10), below(10), below(100), 0, 0); break;
            case 8: case 9: case 10: case 11: case 12: case 13: call("say", below(people), below(words), 0, 0, 0); break;
            case 14: case 15: call("move", below(people), below(4), 0, 0, 0); break;
            case 16: case 17: case 18: call("teach", below(people), below(words), 0, 0, 0); break;
            case 19: case 20: call("carve", below(words), 0, 0, 0, 0); break;
            case 21: case 22: case 23: call("days", 1 + below(random.nextInt(10) == 0 ? 60 : 5), 0, 0, 0, 0); break;
            case 24: call("feed", random.nextInt(), random.nextInt(), random.nextInt(), random.nextInt(), random.nextInt()); break;
            case 25: call("end", below(30), 0, 0, 0, 0); break;
            case 26: case 27: case 28: tell(below(4)); break;
            case 29: tell(0); tell(3); break;
            case 30: call("asks", below(words), below(10), random.nextInt(2), 0, 0); break;
            case 31: call("book", below(y.all.book.size()), below(4), 0, 0, 0); break;
            case 32: call("goes", 1 + below(random.nextInt(4) == 0 ? 400 : 30), below(3), 0, 0, 0); break;
            case 33: call("misses", 0, 0, 0, 0, 0); call("misses", below(2), 0, 0, 0, 0); break;
            case 34: call("wording", below(y.all.meanings.size()), below(2), 0, 0, 0); break;
            case 35: if (isCheap()) call("go", below(4), 0, 0, 0, 0); break;
            case 36: call("keepers", below(3), 0, 0, 0, 0); break;
            case 37: call("costs", below(people), 0, 0, 0, 0); break;
            case 38: call("round", below(people), some(10, 6), random.nextInt(2) * (10 + below(6)), 0, 0); break;
            case 39: if (isCheap()) call("quarrel", below(people), below(people), 1 + below(6), below(3), 0); break;
            case 40: case 41: call("talk", below(words), random.nextInt(2) == 0 ? -1 : below(3), 0, 0, 0); break;
            case 42: if (random.nextInt(3) == 0) call("talk", -1, anything(), 0, 0, 0); break;
            case 43: case 44: call("spoke", random.nextInt(2), 0, 0, 0, 0); break;
            case 45: call("grasps", below(people), below(people), 0, 0, 0); break;
            case 46: call("circle", below(people), 0, 0, 0, 0); break;
            case 47: call("odds", 1 + below(60), below(10), 0, 0, 0); break;
            case 48: if (isCheap()) call("school", below(people), below(2), 0, 0, 0); break;
            case 49: if (isCheap()) call("verse", below(2), 0, 0, 0, 0); break;
            case 50: call("boast", below(people), below(2), 0, 0, 0); break;
            case 51: call("crowd", below(3), 0, 0, 0, 0); break;
            case 52: call("silence", below(2), 0, 0, 0, 0); break;
            case 53: case 54: case 55: call("undo", 0, 0, 0, 0, 0); break;
            case 56: if (random.nextInt(3) == 0) call("image", 1, 0, 0, 0, 0); break;
            case 57: if (random.nextInt(5) == 0) call("image", 0, 0, 0, 0, 0); break;
            case 58: call(CALL_NAMES[isCheap() ? random.nextInt(CALL_NAMES.length) : 15], anything(), anything(), anything(), anything(), anything()); break;
            default: whole();
        }
    }

    private void unsaid(int word) {
        boolean isNearMost = random.nextInt(10) == 0;
        call("set", 2, word, isNearMost ? 9997 + random.nextInt(3) : below(random.nextInt(5) == 0 ? 10001 : 30), 0, 0);
        if (isNearMost) {
            call("days", 1 + random.nextInt(3), 0, 0, 0, 0);
            call("of", word, 1, 0, 0, 0);
        }
    }

    private boolean isCheap() {
        return y.all.words.size() < 9 || random.nextInt(20) == 0;
    }

    private int anything() {
        return random.nextInt(4) == 0 ? random.nextInt() : WILD[random.nextInt(WILD.length)];
    }

    /** A set of at most so many of n, or wild. */
    private int some(int n, int most) {
        int set = 0;
        for (int i = random.nextInt(most + 1); i > 0; i--) {
            set |= 1 << random.nextInt(n);
        }
        return random.nextInt(100) < wild ? random.nextInt(2048) : set;
    }

    /** Some of what is. */
    private void whole() {
        for (int i = 0; i < 4; i++) {
            int what = random.nextInt(3);
            if (what == 0) {
                call("look", below(14), 0, 0, 0, 0);
            } else if (what == 1) {
                call("of", below(y.all.words.size()), below(7), 0, 0, 0);
            } else {
                call("who", below(y.all.people.size()), below(3), 0, 0, 0);
            }
        }
    }

    // Texts.

    private void tell(int k) {
        StringBuilder text = new StringBuilder();
        int lines = random.nextInt(12) == 0 ? 12 + random.nextInt(7) : random.nextInt(6);
        for (int i = 0; i < lines; i++) {
            text.append(k == 0 ? meaning() : k == 1 ? law() : k == 2 ? walk() : need());
            text.append(random.nextInt(4) == 0 ? " ; " : ";").append(random.nextInt(6) == 0 ? "\n" : "");
        }
        for (int i = random.nextInt(4) == 0 ? 1 + random.nextInt(2) : 0; i > 0 && text.length() > 0; i--) {
            spoil(text);
        }
        text.setLength(Math.min(400, text.length()));
        call("end", 0, 0, 0, 0, 0);
        int had = 0;
        for (int i = 0; i < text.length(); i += 20) {
            int[] four = new int[5];
            for (int j = 0; j < 20; j++) {
                int sign = i + j < text.length() ? text.charAt(i + j) : 32;
                four[j / 4] = four[j / 4] << 8 | sign & 255;
            }
            call("feed", four[0], four[1], four[2], four[3], four[4]);
            had = Math.min(text.length(), i + 20);
        }
        call("end", had, 0, 0, 0, 0);
        call("text", k, 0, 0, 0, 0);
        call("fault", 0, 0, 0, 0, 0);
        call("fault", 1, 0, 0, 0, 0);
    }

    private static final String SPOILT = ";;;+-*/()<=> \n.,AZaz0919x\u00e9\u0001\t";
    private static final String[] TOKENS = {"means", "or", "and", "not", "keep", "hear", "tire", "when", "word",
        "long", "unsaid", "said", "kin", "knows", "at", "day", "on", "goes", "says", "rests", "need", "by", "worth",
        "(", ")", "0", "1", "14", "00000", "0000", "10000", "Means", "keepx", ""};

    private void spoil(StringBuilder text) {
        int at = random.nextInt(text.length());
        switch (random.nextInt(5)) {
            case 0: text.setCharAt(at, SPOILT.charAt(random.nextInt(SPOILT.length()))); break;
            case 1: text.insert(at, SPOILT.charAt(random.nextInt(SPOILT.length()))); break;
            case 2: text.deleteCharAt(at); break;
            case 3: text.setLength(at); break;
            default: text.insert(at, " " + TOKENS[random.nextInt(TOKENS.length)] + " ");
        }
    }

    private int rarely(int n, int more) {
        return random.nextInt(100) == 0 ? n + more : n;
    }

    private int pick(int n) {
        return random.nextInt(150) == 0 ? n + random.nextInt(2) : random.nextInt(Math.max(1, n));
    }

    private String meaning() {
        StringBuilder text = new StringBuilder("means");
        int wordings = rarely(1 + random.nextInt(3), 4);
        for (int i = 0; i < wordings; i++) {
            text.append(i > 0 ? " or" : "");
            int words = rarely(1 + random.nextInt(3), 4);
            for (int j = 0; j < words; j++) {
                text.append(' ').append(pick(y.all.words.size()));
            }
        }
        return text.toString();
    }

    private String walk() {
        String head = "on " + (random.nextInt(30) == 0 ? 998 + random.nextInt(3) : y.all.day + random.nextInt(12)) + " " + pick(y.all.people.size());
        switch (random.nextInt(3)) {
            case 0: return head + " goes " + pick(10);
            case 1: return head + " rests";
            default: return head + " says " + pick(y.all.words.size());
        }
    }

    private String need() {
        return "need " + pick(y.all.meanings.size()) + " by "
                + (random.nextInt(30) == 0 ? 998 + random.nextInt(3) : Math.max(0, y.all.day - 3) + random.nextInt(25))
                + " worth " + rarely(1 + random.nextInt(99), 99);
    }

    private String law() {
        String[] kinds = {"keep", "hear", "tire"};
        int kind = random.nextInt(3);
        String text = kinds[kind] + " " + (random.nextInt(3) > 0 ? String.valueOf(new int[] {8 + random.nextInt(30), random.nextInt(4), random.nextInt(9)}[kind]) : sum());
        return random.nextInt(3) == 0 ? text : text + " when " + either(0);
    }

    private String either(int depth) {
        StringBuilder text = new StringBuilder(condition(depth));
        while (random.nextInt(3) == 0) {
            text.append(random.nextBoolean() ? " and " : " or ").append(condition(depth));
        }
        return text.toString();
    }

    private String condition(int depth) {
        if (depth < 10 && random.nextInt(depth == 0 ? 3 : 2) == 0) {
            return random.nextBoolean() ? "not " + condition(depth + 1) : "(" + either(depth + 1) + ")";
        }
        return sum() + "<=>".charAt(random.nextInt(3)) + sum();
    }

    private String sum() {
        StringBuilder text = new StringBuilder(product());
        while (random.nextInt(4) == 0) {
            text.append(random.nextBoolean() ? "+" : " - ").append(product());
        }
        return text.toString();
    }

    private String product() {
        StringBuilder text = new StringBuilder(unit());
        while (random.nextInt(4) == 0) {
            if (random.nextBoolean()) {
                text.append(" * ").append(unit());
            } else {
                text.append("/").append(random.nextInt(20) == 0 ? 0 : 1 + random.nextInt(12));
            }
        }
        return text.toString();
    }

    private String unit() {
        String[] facts = {"word", "long", "unsaid", "said", "kin", "knows", "at", "day"};
        if (random.nextInt(2) == 0) {
            return facts[random.nextInt(facts.length)];
        }
        return String.valueOf(random.nextInt(20) == 0 ? random.nextInt(10001) : random.nextInt(12));
    }

    // Calls.

    private void call(String name, int a, int b, int c, int d, int e) {
        if (left <= 0) {
            return;
        }
        left--;
        String told = name + "(" + a + ", " + b + ", " + c + ", " + d + ", " + e + "), call " + (CALLS - left);
        long got;
        try {
            got = ofClass(name, a, b, c, d, e);
        } catch (RuntimeException | StackOverflowError thrown) {
            thrown.printStackTrace(System.out);
            got = Long.MIN_VALUE;
        }
        due.is(told, got, ofPlain(name, a, b, c, d, e));
        due.is(told + " within the bounds of Terms: " + got, isWithin(name, a, b, c, got), true);
    }

    /**
     * Both forms of the class could go beyond a bound alike, so the bounds are looked at by
     * themselves: of every answer that tells a value for which the document names them.
     */
    private static boolean isWithin(String name, int first, int what, int third, long got) {
        if (got < 0) {
            return got >= -2 || name.equals("state") || name.equals("look") && first == 6;
        }
        switch (name) {
            case "of": return got <= new int[] {20, 9999, 1, Integer.MAX_VALUE, 16383, 9999, 1023}[what] && (got > 0 || what != 0 && what != 5);
            case "who": return got <= new int[] {9, 16383, 99}[what];
            case "asks": return got <= (third == 1 ? 99 : 9);
            case "book": return got <= new int[] {9999, 5, 9, 13}[what];
            case "look": return first == 6 || got <= new int[] {14, 10, 9999, 1000, 16383, 150, 0, 10, 16, 16, 12, 10, 6, 1023}[first];
            default: return true;
        }
    }

    private static long one(boolean b) {
        return b ? 1 : 0;
    }

    private long ofClass(String name, int a, int b, int c, int d, int e) {
        switch (name) {
            case "state": return x.state(a);
            case "word": return x.word(a);
            case "person": return x.person(a);
            case "set": return one(x.set(a, b, c));
            case "kin": return one(x.kin(a, b, c == 1));
            case "miles": return one(x.miles(a, b, c));
            case "say": return x.say(a, b);
            case "move": return one(x.move(a, b));
            case "teach": return one(x.teach(a, b));
            case "carve": return one(x.carve(a));
            case "days": return x.days(a);
            case "feed": return x.feed(a, b, c, d, e);
            case "end": return one(x.end(a));
            case "text": return x.text(a);
            case "fault": return x.fault(a);
            case "of": return x.of(a, b);
            case "who": return x.who(a, b);
            case "asks": return x.asks(a, b, c == 1);
            case "book": return x.book(a, b);
            case "goes": return x.goes(a, b);
            case "misses": return x.misses(a);
            case "wording": return x.wording(a, b);
            case "go": return x.go(a);
            case "keepers": return x.keepers(a);
            case "costs": return x.costs(a);
            case "round": return x.round(a, b, c);
            case "quarrel": return x.quarrel(a, b, c, d);
            case "talk": return x.talk(a, b);
            case "spoke": return x.spoke(a == 1);
            case "grasps": return x.grasps(a, b);
            case "circle": return x.circle(a);
            case "odds": return x.odds(a, b);
            case "school": return x.school(a, b);
            case "verse": return x.verse(a);
            case "boast": return x.boast(a, b);
            case "crowd": return x.crowd(a);
            case "silence": return x.silence(a);
            case "undo": return one(x.undo());
            case "image": return one(x.image(a == 1));
            default: return x.look(a);
        }
    }

    private long ofPlain(String name, int a, int b, int c, int d, int e) {
        switch (name) {
            case "state": return y.state(a);
            case "word": return y.word(a);
            case "person": return y.person(a);
            case "set": return one(y.set(a, b, c));
            case "kin": return one(y.kin(a, b, c == 1));
            case "miles": return one(y.miles(a, b, c));
            case "say": return y.say(a, b);
            case "move": return one(y.move(a, b));
            case "teach": return one(y.teach(a, b));
            case "carve": return one(y.carve(a));
            case "days": return y.days(a);
            case "feed": return y.feed(a, b, c, d, e);
            case "end": return one(y.end(a));
            case "text": return y.text(a);
            case "fault": return y.fault(a);
            case "of": return y.of(a, b);
            case "who": return y.who(a, b);
            case "asks": return y.asks(a, b, c == 1);
            case "book": return y.book(a, b);
            case "goes": return y.goes(a, b);
            case "misses": return y.misses(a);
            case "wording": return y.wording(a, b);
            case "go": return y.go(a);
            case "keepers": return y.keepers(a);
            case "costs": return y.costs(a);
            case "round": return y.round(a, b, c);
            case "quarrel": return y.quarrel(a, b, c, d);
            case "talk": return y.talk(a, b);
            case "spoke": return y.spoke(a == 1);
            case "grasps": return y.grasps(a, b);
            case "circle": return y.circle(a);
            case "odds": return y.odds(a, b);
            case "school": return y.school(a, b);
            case "verse": return y.verse(a);
            case "boast": return y.boast(a, b);
            case "crowd": return y.crowd(a);
            case "silence": return y.silence(a);
            case "undo": return one(y.undo());
            case "image": return one(y.image(a == 1));
            default: return y.look(a);
        }
    }
}
