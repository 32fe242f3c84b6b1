/**
 * Words that lapse when nobody says them. What each call does and answers is told in
 * ../shared/DOC.md; the words in capitals are that document's.
 *
 * <p>No call makes an object: every row stands ready from the constructor on.
 */
public final class UnsaidWords {
    /** None. */
    public static final int NONE = -1;

    private static final int NO_SUCH = NONE - 1;

    private static final int WORDS_MOST = 14;
    private static final int LONG_MOST = 20;
    private static final int UNSAID_MOST = 9999;
    private static final int PEOPLE_MOST = 10;
    private static final int PLACES = 10;
    private static final int MILES_MOST = 99;
    private static final int MILES_FIRST = 10;
    private static final int BREATH_FIRST = 50;
    private static final int BREATH_MOST = 99;
    private static final int BREATH_BY_REST = 20;
    private static final int BREATH_BY_NIGHT = 5;
    private static final int CHAT_MOST = 1000;
    private static final int DAY_MOST = 9999;

    private static final int DAYS_AT_ONCE = 60;
    private static final int GOES_MOST = 400;
    private static final int ROUND_MOST = 6;
    private static final int QUARREL_MOST = 6;
    private static final int ODDS_PEOPLE_MOST = 9;
    private static final int MILLION = 1000000;
    private static final int HEAP_MOST = 8;
    private static final int UNDO_MOST = 6;

    private static final int TAPE_MOST = 400;
    private static final int FED_AT_ONCE = 20;
    private static final int MEANINGS_MOST = 10;
    private static final int WORDINGS_MOST = 6;
    private static final int WORDING_WORDS_MOST = 6;
    private static final int LAW_MOST = 16;
    private static final int WALKS_MOST = 16;
    private static final int NEEDS_MOST = 12;
    private static final int TOLD_DAY_MOST = 999;
    private static final int WORTH_MOST = 99;
    private static final int BOOK_MOST = 150;
    private static final int TALK_MOST = 10;
    private static final int KEEP_UNTOLD = 365;
    private static final int KEEP_MOST = 9999;
    private static final int HEAR_UNTOLD = 2;
    private static final int HEAR_MOST = 9;
    private static final int TIRE_MOST = 99;
    private static final int OPEN_MOST = 8;
    private static final int DIGITS_MOST = 4;

    // The texts.
    private static final int MEANINGS_TEXT = 0;
    private static final int LAW_TEXT = 1;
    private static final int WALKS_TEXT = 2;
    private static final int NEEDS_TEXT = 3;

    // The faults.
    private static final int MISPLACED = 1;
    private static final int NOT_THERE = 2;
    private static final int TOO_MANY = 3;

    // What a line of THE BOOK tells.
    private static final int HEARD = 0;
    private static final int NOT_HEARD = 1;
    private static final int LAPSED = 2;
    private static final int MOVED = 3;
    private static final int TAUGHT = 4;
    private static final int CARVED = 5;

    // Kinds of tokens: a sign of its own is its character's number.
    private static final int END = 0;
    private static final int STRANGE = 1;
    private static final int NUMBER = 2;
    private static final int KEYWORD = 100;
    private static final int MEANS = KEYWORD;
    private static final int OR = KEYWORD + 1;
    private static final int AND = KEYWORD + 2;
    private static final int NOT = KEYWORD + 3;
    private static final int KEEP = KEYWORD + 4;
    private static final int HEAR = KEYWORD + 5;
    private static final int TIRE = KEYWORD + 6;
    private static final int WHEN = KEYWORD + 7;
    private static final int FIRST_FACT = KEYWORD + 8;
    private static final int FACTS = 8;
    private static final int ON = KEYWORD + 16;
    private static final int GOES = KEYWORD + 17;
    private static final int SAYS = KEYWORD + 18;
    private static final int RESTS = KEYWORD + 19;
    private static final int NEED = KEYWORD + 20;
    private static final int BY = KEYWORD + 21;
    private static final int WORTH = KEYWORD + 22;

    /**
     * All keywords in the order of their numbers, a blank behind each. One list serves every
     * text: a keyword of another text can't stand anywhere, just as if it were none.
     */
    private static final String KEYWORDS = "means or and not keep hear tire when word long unsaid said kin knows at day on goes says rests need by worth ";
    private static final String SIGNS = ";+-*/()<=>";

    // Cells of THE LAW's code: a NUMBER as it is, behind these the facts and the operators.
    private static final int FACT_CELL = 10000;
    private static final int OPERATOR_CELL = 20000;
    /** Eight open ( keep an or's and an and's left side each; one comparison more needs four. */
    private static final int STACK_MOST = 32;

    private final World now;
    private final World imaged;
    /** For what does not stay: days in thought, and a text until it is known to have no FAULT. */
    private final World spare;
    private final Past past;
    private final Tape tape;
    private final Texts texts;
    private boolean hasImage;

    public UnsaidWords() {
        now = new World();
        imaged = new World();
        spare = new World();
        past = new Past();
        tape = new Tape();
        texts = new Texts();
        hasImage = false;
    }

    public int state(int v) {
        int was = now.being.draws;
        now.being.draws = v;
        past.forget();
        return was;
    }

    public int word(int lasting) {
        if (lasting < 1 || lasting > LONG_MOST || now.words >= WORDS_MOST) {
            return NONE;
        }
        past.forget();
        return now.addWord(lasting);
    }

    public int person(int place) {
        if (!World.isPlace(place) || now.people >= PEOPLE_MOST) {
            return NONE;
        }
        past.forget();
        return now.addPerson(place);
    }

    public boolean set(int what, int who, int v) {
        if (what == 0 && isUpTo(v, CHAT_MOST)) {
            now.chat = v;
        } else if (what == 1 && now.hasPerson(who) && isUpTo(v, BREATH_MOST)) {
            now.being.breath[who] = v;
        } else if (what == 2 && now.hasWord(who) && isUpTo(v, UNSAID_MOST)) {
            now.being.unsaid[who] = v;
        } else {
            return false;
        }
        past.forget();
        return true;
    }

    private static boolean isUpTo(int v, int most) {
        return v >= 0 && v <= most;
    }

    public boolean kin(int a, int b, boolean is) {
        if (!now.hasWord(a) || !now.hasWord(b) || a == b) {
            return false;
        }
        if (is) {
            now.kinOf[a] |= 1 << b;
            now.kinOf[b] |= 1 << a;
        } else {
            now.kinOf[a] &= ~(1 << b);
            now.kinOf[b] &= ~(1 << a);
        }
        past.forget();
        return true;
    }

    public boolean miles(int a, int b, int v) {
        if (!World.isPlace(a) || !World.isPlace(b) || a == b || !isUpTo(v, MILES_MOST)) {
            return false;
        }
        now.distances[a * PLACES + b] = v;
        now.distances[b * PLACES + a] = v;
        past.forget();
        return true;
    }

    public int say(int person, int word) {
        if (!now.canSpeak(person, word)) {
            return NONE;
        }
        past.keep(now);
        return now.speak(person, word) ? 1 : 0;
    }

    public boolean move(int person, int place) {
        if (!now.hasPerson(person) || !World.isPlace(place) || now.being.at[person] == place) {
            return false;
        }
        past.keep(now);
        now.moveTo(person, place);
        return true;
    }

    public boolean teach(int person, int word) {
        if (!now.hasPerson(person) || !now.hasWord(word) || now.hasLapsed(word)
                || now.hasInTongue(person, word)) {
            return false;
        }
        past.keep(now);
        now.learn(person, word);
        return true;
    }

    public boolean carve(int word) {
        if (!now.hasWord(word) || !now.hasLapsed(word)) {
            return false;
        }
        past.keep(now);
        now.revive(word);
        return true;
    }

    public int days(int n) {
        if (n < 1 || n > DAYS_AT_ONCE || now.being.day + n > DAY_MOST) {
            return NONE;
        }
        int before = Integer.bitCount(now.being.lapsed);
        for (int i = 0; i < n; i++) {
            past.keep(now);
            now.passDay();
        }
        return Integer.bitCount(now.being.lapsed) - before;
    }

    public int feed(int a, int b, int c, int d, int e) {
        if (tape.length + FED_AT_ONCE > TAPE_MOST) {
            return NONE;
        }
        tape.put(a);
        tape.put(b);
        tape.put(c);
        tape.put(d);
        tape.put(e);
        return tape.length;
    }

    public boolean end(int n) {
        if (n < 0 || n > tape.length) {
            return false;
        }
        tape.length = n;
        return true;
    }

    public int text(int k) {
        int lines = texts.read(k, tape, now, spare);
        tape.length = 0;
        if (lines == NONE) {
            return NONE;
        }
        if (k == MEANINGS_TEXT) {
            now.meanings.become(spare.meanings);
            now.needs.count = 0;
        } else if (k == LAW_TEXT) {
            now.law.become(spare.law);
        } else if (k == WALKS_TEXT) {
            now.walks.become(spare.walks);
            past.forget();
        } else {
            now.needs.become(spare.needs);
        }
        return lines;
    }

    public int fault(int what) {
        if (what == 0) {
            return texts.fault;
        }
        return what == 1 ? texts.faultPlace : NONE;
    }

    public int of(int word, int what) {
        if (!now.hasWord(word)) {
            return NONE;
        }
        switch (what) {
            case 0: return now.lasting[word];
            case 1: return now.being.unsaid[word];
            case 2: return now.hasLapsed(word) ? 1 : 0;
            case 3: return now.being.said[word];
            case 4: return now.kinOf[word];
            case 5: return now.lawFor(KEEP, word, 0);
            case 6: return now.knowers(word);
            default: return NONE;
        }
    }

    public int who(int person, int what) {
        if (!now.hasPerson(person)) {
            return NONE;
        }
        switch (what) {
            case 0: return now.being.at[person];
            case 1: return now.being.tongue[person];
            case 2: return now.being.breath[person];
            default: return NONE;
        }
    }

    public int asks(int word, int place, boolean tire) {
        if (!now.hasWord(word) || !World.isPlace(place)) {
            return NONE;
        }
        return now.lawFor(tire ? TIRE : HEAR, word, place);
    }

    public int book(int i, int what) {
        if (i < 0 || i >= now.book.count || what < 0 || what >= Rows.COLUMNS) {
            return NO_SUCH;
        }
        return now.book.cell(i, what);
    }

    public int goes(int n, int what) {
        if (n < 1 || n > GOES_MOST || what < 0 || what > 2) {
            return NO_SUCH;
        }
        beginThought();
        int first = NONE;
        int firstDay = NONE;
        for (int i = 0; i < n; i++) {
            int day = spare.being.day;
            int before = spare.being.lapsed;
            spare.passDay();
            int gone = spare.being.lapsed & ~before;
            if (first == NONE && gone != 0) {
                first = Integer.numberOfTrailingZeros(gone);
                firstDay = day;
            }
        }
        if (what == 0) {
            return Integer.bitCount(spare.being.lapsed);
        }
        return what == 1 ? first : firstDay;
    }

    /** Without CHAT nobody draws, so days in thought differ from days that go by in this alone. */
    private void beginThought() {
        spare.become(now);
        spare.chat = 0;
    }

    public int misses(int what) {
        if (what != 0 && what != 1) {
            return NONE;
        }
        int lastDay = NONE;
        for (int i = 0; i < now.needs.count; i++) {
            lastDay = Math.max(lastDay, now.needs.cell(i, 1));
        }
        beginThought();
        int first = NONE;
        int worth = 0;
        for (int day = now.being.day; day <= lastDay; day++) {
            spare.passDay();
            int sayable = spare.sayable();
            for (int i = 0; i < now.needs.count; i++) {
                if (now.needs.cell(i, 1) != day) {
                    continue;
                }
                if (World.isIn(sayable, now.needs.cell(i, 0))) {
                    worth += now.needs.cell(i, 2);
                } else if (first == NONE) {
                    first = i;
                }
            }
        }
        return what == 0 ? first : worth;
    }

    public int wording(int meaning, int what) {
        if (meaning < 0 || meaning >= now.meanings.count) {
            return NONE;
        }
        int least = now.meanings.shortest(meaning, now.living());
        if (least == NONE) {
            return NONE;
        }
        switch (what) {
            case 0: return now.meanings.longOf(meaning, least);
            case 1: return least;
            default: return NONE;
        }
    }

    public int go(int what) {
        if (what < 0 || what > 3) {
            return NONE;
        }
        int words = what < 2 ? Thought.mostToGo(now) : Thought.fewestToCarve(now);
        return what % 2 == 0 ? Integer.bitCount(words) : words;
    }

    public int keepers(int what) {
        switch (what) {
            case 0: return Integer.bitCount(Thought.fewestKeepers(now));
            case 1: return Thought.fewestKeepers(now);
            case 2: return Thought.dearest(now);
            default: return NONE;
        }
    }

    public int costs(int person) {
        return now.hasPerson(person) ? Thought.cost(now, person) : NONE;
    }

    public int round(int person, int places, int what) {
        if (!now.hasPerson(person) || places < 0 || places >= 1 << PLACES
                || Integer.bitCount(places) > ROUND_MOST) {
            return NONE;
        }
        int from = now.being.at[person];
        if (what == 0) {
            return Thought.fewestMiles(now, from, places);
        }
        if (what < 10 || what - 10 >= Integer.bitCount(places)) {
            return NONE;
        }
        return Thought.placeOnRound(now, from, places, what - 10);
    }

    public int quarrel(int a, int b, int n, int what) {
        if (!now.hasPerson(a) || !now.hasPerson(b) || a == b || n < 1 || n > QUARREL_MOST) {
            return NONE;
        }
        int both = now.being.tongue[a] & now.being.tongue[b];
        if (what == 0) {
            return Integer.bitCount(both);
        }
        if (what != 1 && what != 2 || n > Integer.bitCount(both)) {
            return NONE;
        }
        int longest = Thought.longestUnsaid(now, both, n);
        return what == 1 ? Thought.unsaidTogether(now, longest) : longest;
    }

    public int talk(int word, int place) {
        if (word == NONE) {
            // Nothing is told then, so the place is not asked.
            now.talks.count = 0;
            return 0;
        }
        if (place != NONE && !World.isPlace(place)) {
            return NONE;
        }
        if (!now.hasWord(word) || now.talks.count >= TALK_MOST) {
            return NONE;
        }
        now.talks.add(word, place, 0, 0);
        return now.talks.count;
    }

    public int spoke(boolean set) {
        int speakers = Thought.speakers(now);
        return set ? speakers : Thought.wordToHear(now, speakers);
    }

    public int grasps(int a, int b) {
        if (!now.hasPerson(a) || !now.hasPerson(b)) {
            return NONE;
        }
        return Thought.understood(now, a, b);
    }

    public int circle(int person) {
        return now.hasPerson(person) ? Thought.circleAround(now, person) : NONE;
    }

    public int odds(int n, int k) {
        if (n < 1 || n > DAYS_AT_ONCE || k < 0 || k > ODDS_PEOPLE_MOST) {
            return NONE;
        }
        int left = MILLION;
        for (int i = 0; i < k * n; i++) {
            left = left * (CHAT_MOST - now.chat) / CHAT_MOST;
        }
        return MILLION - left;
    }

    public int school(int person, int what) {
        if (!now.hasPerson(person) || what != 0 && what != 1) {
            return NONE;
        }
        int words = Thought.fewestToTeach(now, person);
        return what == 0 ? Integer.bitCount(words) : words;
    }

    public int verse(int what) {
        if (what != 0 && what != 1) {
            return NONE;
        }
        int words = Thought.longestVerse(now);
        return what == 0 ? Thought.longTogether(now, words) : words;
    }

    public int boast(int person, int what) {
        if (!now.hasPerson(person)) {
            return NONE;
        }
        int tongue = now.being.tongue[person];
        int meaning = now.meanings.proudest(tongue);
        if (meaning == NONE) {
            return NONE;
        }
        switch (what) {
            case 0: return now.meanings.longest(meaning, tongue);
            case 1: return meaning;
            default: return NONE;
        }
    }

    public int crowd(int what) {
        int place = Thought.fullestPlace(now);
        switch (what) {
            case 0: return place;
            case 1: return Integer.bitCount(now.peopleAt(place));
            case 2: return Thought.wordsInAllTongues(now, now.peopleAt(place));
            default: return NONE;
        }
    }

    public int silence(int what) {
        int sum = Thought.heapSum(now);
        int word = Thought.wordToSilence(now, sum);
        if (word == NONE) {
            return NONE;
        }
        switch (what) {
            case 0: return word;
            case 1: return now.heap(word) ^ sum;
            default: return NONE;
        }
    }

    public boolean undo() {
        return past.bringBack(now);
    }

    public boolean image(boolean taken) {
        if (taken) {
            imaged.become(now);
            hasImage = true;
            return true;
        }
        if (!hasImage) {
            return false;
        }
        now.become(imaged);
        past.forget();
        return true;
    }

    public int look(int what) {
        switch (what) {
            case 0: return now.words;
            case 1: return now.people;
            case 2: return now.being.day;
            case 3: return now.chat;
            case 4: return now.being.lapsed;
            case 5: return now.book.count;
            case 6: return now.being.draws;
            case 7: return now.meanings.count;
            case 8: return now.law.count;
            case 9: return now.walks.count;
            case 10: return now.needs.count;
            case 11: return now.talks.count;
            case 12: return past.count;
            case 13: return now.sayable();
            default: return NONE;
        }
    }

    /** What days and deeds change, and UNDO brings back (THE BOOK aside, which only grows). */
    static final class Being {
        int draws;
        int day;
        int lapsed;
        final int[] unsaid = new int[WORDS_MOST];
        final int[] said = new int[WORDS_MOST];
        final int[] at = new int[PEOPLE_MOST];
        final int[] tongue = new int[PEOPLE_MOST];
        final int[] breath = new int[PEOPLE_MOST];

        void become(Being other) {
            draws = other.draws;
            day = other.day;
            lapsed = other.lapsed;
            System.arraycopy(other.unsaid, 0, unsaid, 0, WORDS_MOST);
            System.arraycopy(other.said, 0, said, 0, WORDS_MOST);
            System.arraycopy(other.at, 0, at, 0, PEOPLE_MOST);
            System.arraycopy(other.tongue, 0, tongue, 0, PEOPLE_MOST);
            System.arraycopy(other.breath, 0, breath, 0, PEOPLE_MOST);
        }
    }

    /** Lines of four numbers: THE BOOK, WALKS, NEEDS, TALK. */
    static final class Rows {
        static final int COLUMNS = 4;

        int count;
        private final int[] cells;

        Rows(int most) {
            cells = new int[Math.max(0, most) * COLUMNS];
        }

        /** Nothing comes where there is no room any more. */
        void add(int first, int second, int third, int fourth) {
            int at = count * COLUMNS;
            if (at < 0 || at + COLUMNS > cells.length) {
                return;
            }
            cells[at] = first;
            cells[at + 1] = second;
            cells[at + 2] = third;
            cells[at + 3] = fourth;
            count++;
        }

        int cell(int row, int column) {
            if (row < 0 || row >= count || column < 0 || column >= COLUMNS) {
                return NONE;
            }
            return cells[row * COLUMNS + column];
        }

        void become(Rows other) {
            System.arraycopy(other.cells, 0, cells, 0, Math.min(other.cells.length, cells.length));
            count = other.count;
        }
    }

    /** Of each wording only the set of its WORDS and their LONG together are ever asked. */
    static final class Meanings {
        int count;
        private final int[] wordings = new int[MEANINGS_MOST];
        private final int[] sets = new int[MEANINGS_MOST * WORDINGS_MOST];
        private final int[] longs = new int[MEANINGS_MOST * WORDINGS_MOST];

        void become(Meanings other) {
            count = other.count;
            System.arraycopy(other.wordings, 0, wordings, 0, MEANINGS_MOST);
            System.arraycopy(other.sets, 0, sets, 0, sets.length);
            System.arraycopy(other.longs, 0, longs, 0, longs.length);
        }

        void open() {
            if (count < MEANINGS_MOST) {
                wordings[count] = 0;
                count++;
            }
        }

        /** A wording of the latest MEANING. */
        boolean addWording(int set, int lasting) {
            int meaning = count - 1;
            if (meaning < 0 || wordings[meaning] >= WORDINGS_MOST) {
                return false;
            }
            int i = meaning * WORDINGS_MOST + wordings[meaning];
            sets[i] = set;
            longs[i] = lasting;
            wordings[meaning]++;
            return true;
        }

        boolean isLatestFull() {
            return count < 1 || wordings[count - 1] >= WORDINGS_MOST;
        }

        int longOf(int meaning, int wording) {
            if (meaning < 0 || meaning >= count || wording < 0 || wording >= wordings[meaning]) {
                return 0;
            }
            return longs[meaning * WORDINGS_MOST + wording];
        }

        /** The MEANINGS that can be said with these WORDS. */
        int sayableWith(int words) {
            int sayable = 0;
            for (int meaning = 0; meaning < count; meaning++) {
                for (int i = 0; i < wordings[meaning]; i++) {
                    if ((sets[meaning * WORDINGS_MOST + i] & ~words) == 0) {
                        sayable |= 1 << meaning;
                    }
                }
            }
            return sayable;
        }

        /** The number of the wording of least LONG with these WORDS; NONE if there is none. */
        int shortest(int meaning, int words) {
            if (meaning < 0 || meaning >= count) {
                return NONE;
            }
            int base = meaning * WORDINGS_MOST;
            int best = NONE;
            for (int i = 0; i < wordings[meaning]; i++) {
                boolean can = (sets[base + i] & ~words) == 0;
                if (can && (best == NONE || longs[base + i] < longs[base + best])) {
                    best = i;
                }
            }
            return best;
        }

        /** The greatest LONG of its wordings with these WORDS; NONE if there is none. */
        int longest(int meaning, int words) {
            if (meaning < 0 || meaning >= count) {
                return NONE;
            }
            int base = meaning * WORDINGS_MOST;
            int best = NONE;
            for (int i = 0; i < wordings[meaning]; i++) {
                if ((sets[base + i] & ~words) == 0) {
                    best = Math.max(best, longs[base + i]);
                }
            }
            return best;
        }

        /** The MEANING of which a wording with these WORDS has the greatest LONG; or NONE. */
        int proudest(int words) {
            int best = NONE;
            int most = NONE;
            for (int meaning = 0; meaning < count; meaning++) {
                int lasting = longest(meaning, words);
                if (lasting > most) {
                    most = lasting;
                    best = meaning;
                }
            }
            return best;
        }
    }

    /** THE LAW's lines as code in which operators stand behind what they join. */
    static final class Law {
        int count;
        private int size;
        private final int[] kinds = new int[LAW_MOST];
        private final int[] starts = new int[LAW_MOST];
        private final int[] conditions = new int[LAW_MOST];
        private final int[] ends = new int[LAW_MOST];
        private final int[] code = new int[TAPE_MOST];
        private final int[] stack = new int[STACK_MOST];

        void become(Law other) {
            count = other.count;
            size = other.size;
            System.arraycopy(other.kinds, 0, kinds, 0, LAW_MOST);
            System.arraycopy(other.starts, 0, starts, 0, LAW_MOST);
            System.arraycopy(other.conditions, 0, conditions, 0, LAW_MOST);
            System.arraycopy(other.ends, 0, ends, 0, LAW_MOST);
            System.arraycopy(other.code, 0, code, 0, TAPE_MOST);
        }

        void clear() {
            count = 0;
            size = 0;
        }

        void open(int kind) {
            if (count < LAW_MOST) {
                kinds[count] = kind;
                starts[count] = size;
            }
        }

        void openCondition() {
            if (count < LAW_MOST) {
                conditions[count] = size;
            }
        }

        void close() {
            if (count < LAW_MOST) {
                ends[count] = size;
                count++;
            }
        }

        void emit(int cell) {
            if (size < TAPE_MOST) {
                code[size] = cell;
                size++;
            }
        }

        /** What the first line of that kind tells whose condition is so; else what is without. */
        int tells(int kind, int[] facts, int without) {
            for (int i = 0; i < count; i++) {
                if (kinds[i] != kind) {
                    continue;
                }
                boolean always = conditions[i] == ends[i];
                if (always || value(conditions[i], ends[i], facts) != 0) {
                    return value(starts[i], conditions[i], facts);
                }
            }
            return without;
        }

        /** One method, not one for each kind of cell: here the class's calls are deepest. */
        private int value(int from, int to, int[] facts) {
            if (from < 0 || to > code.length) {
                return 0;
            }
            int top = 0;
            for (int i = from; i < to; i++) {
                int cell = code[i];
                if (cell < OPERATOR_CELL) {
                    int fact = cell - FACT_CELL;
                    if (top >= STACK_MOST || fact >= facts.length) {
                        return 0;
                    }
                    stack[top] = fact < 0 ? cell : facts[fact];
                    top++;
                    continue;
                }
                int operator = cell - OPERATOR_CELL;
                if (top < (operator == NOT ? 1 : 2)) {
                    return 0;
                }
                int right = stack[top - 1];
                if (operator == NOT) {
                    stack[top - 1] = 1 - right;
                    continue;
                }
                top--;
                int left = stack[top - 1];
                int joined = 0;
                switch (operator) {
                    case '+': joined = left + right; break;
                    case '-': joined = left - right; break;
                    case '*': joined = left * right; break;
                    case '/': joined = right == 0 ? 0 : left / right; break;
                    case '<': joined = left < right ? 1 : 0; break;
                    case '=': joined = left == right ? 1 : 0; break;
                    case '>': joined = left > right ? 1 : 0; break;
                    case AND: joined = left & right; break;
                    case OR: joined = left | right; break;
                    default: return 0;
                }
                stack[top - 1] = joined;
            }
            return top < 1 ? 0 : stack[0];
        }
    }

    /** All that is and was told, but the TAPE, the FAULT and what can be undone. */
    static final class World {
        int words;
        int people;
        int chat;
        final int[] lasting = new int[WORDS_MOST];
        final int[] kinOf = new int[WORDS_MOST];
        final int[] distances = new int[PLACES * PLACES];
        final Being being = new Being();
        final Rows book = new Rows(BOOK_MOST);
        final Rows walks = new Rows(WALKS_MOST);
        final Rows needs = new Rows(NEEDS_MOST);
        final Rows talks = new Rows(TALK_MOST);
        final Meanings meanings = new Meanings();
        final Law law = new Law();
        private final int[] facts = new int[FACTS];

        World() {
            for (int i = 0; i < PLACES * PLACES; i++) {
                distances[i] = i / PLACES == i % PLACES ? 0 : MILES_FIRST;
            }
        }

        void become(World other) {
            words = other.words;
            people = other.people;
            chat = other.chat;
            System.arraycopy(other.lasting, 0, lasting, 0, WORDS_MOST);
            System.arraycopy(other.kinOf, 0, kinOf, 0, WORDS_MOST);
            System.arraycopy(other.distances, 0, distances, 0, PLACES * PLACES);
            being.become(other.being);
            book.become(other.book);
            walks.become(other.walks);
            needs.become(other.needs);
            talks.become(other.talks);
            meanings.become(other.meanings);
            law.become(other.law);
        }

        static boolean isIn(int set, int i) {
            return i >= 0 && i < 32 && (set >> i & 1) != 0;
        }

        static boolean isPlace(int place) {
            return place >= 0 && place < PLACES;
        }

        boolean hasWord(int word) {
            return word >= 0 && word < words;
        }

        boolean hasPerson(int person) {
            return person >= 0 && person < people;
        }

        boolean hasLapsed(int word) {
            return isIn(being.lapsed, word);
        }

        boolean hasInTongue(int person, int word) {
            return hasPerson(person) && isIn(being.tongue[person], word);
        }

        /** The WORDS that are not LAPSED. */
        int living() {
            return (1 << words) - 1 & ~being.lapsed;
        }

        /** The MEANINGS that can be said now. */
        int sayable() {
            return meanings.sayableWith(living());
        }

        int addWord(int lasts) {
            if (words >= WORDS_MOST) {
                return NONE;
            }
            lasting[words] = lasts;
            kinOf[words] = 0;
            being.unsaid[words] = 0;
            being.said[words] = 0;
            words++;
            return words - 1;
        }

        int addPerson(int place) {
            if (people >= PEOPLE_MOST) {
                return NONE;
            }
            being.at[people] = place;
            being.tongue[people] = 0;
            being.breath[people] = BREATH_FIRST;
            people++;
            return people - 1;
        }

        /** The PEOPLE in whose TONGUE it is. */
        int knowers(int word) {
            int knowers = 0;
            for (int p = 0; p < people; p++) {
                if (isIn(being.tongue[p], word)) {
                    knowers |= 1 << p;
                }
            }
            return knowers;
        }

        int peopleAt(int place) {
            int there = 0;
            for (int p = 0; p < people; p++) {
                if (being.at[p] == place) {
                    there |= 1 << p;
                }
            }
            return there;
        }

        int milesBetween(int a, int b) {
            return isPlace(a) && isPlace(b) ? distances[a * PLACES + b] : 0;
        }

        int heap(int word) {
            return hasWord(word) ? being.unsaid[word] % HEAP_MOST : 0;
        }

        /** What THE LAW tells for KEEP, HEAR or TIRE of a WORD said at a PLACE, held to its bounds. */
        int lawFor(int kind, int word, int place) {
            if (!hasWord(word)) {
                return 0;
            }
            facts[0] = word;
            facts[1] = lasting[word];
            facts[2] = being.unsaid[word];
            facts[3] = being.said[word];
            facts[4] = Integer.bitCount(kinOf[word] & living());
            facts[5] = Integer.bitCount(knowers(word));
            facts[6] = place;
            facts[7] = being.day;
            if (kind == KEEP) {
                return held(law.tells(kind, facts, KEEP_UNTOLD), 1, KEEP_MOST);
            }
            if (kind == HEAR) {
                return held(law.tells(kind, facts, HEAR_UNTOLD), 0, HEAR_MOST);
            }
            return held(law.tells(kind, facts, lasting[word]), 0, TIRE_MOST);
        }

        private static int held(int v, int least, int most) {
            return Math.max(least, Math.min(most, v));
        }

        boolean canSpeak(int person, int word) {
            return hasPerson(person) && hasWord(word) && hasInTongue(person, word)
                    && !hasLapsed(word)
                    && being.breath[person] >= lawFor(TIRE, word, being.at[person]);
        }

        /** To SAY, by a PERSON who can: whether it is HEARD. */
        boolean speak(int person, int word) {
            if (!hasPerson(person) || !hasWord(word)) {
                return false;
            }
            int others = peopleAt(being.at[person]) & ~(1 << person);
            int knowing = Integer.bitCount(others & knowers(word));
            boolean heard = knowing >= lawFor(HEAR, word, being.at[person]);
            being.breath[person] -= lawFor(TIRE, word, being.at[person]);
            if (heard) {
                spread(word, others);
            }
            book.add(being.day, heard ? HEARD : NOT_HEARD, person, word);
            return heard;
        }

        private void spread(int word, int hearers) {
            being.unsaid[word] = 0;
            being.said[word]++;
            int freshened = kinOf[word] & living();
            for (int w = 0; w < words; w++) {
                if (isIn(freshened, w)) {
                    being.unsaid[w] /= 2;
                }
            }
            for (int p = 0; p < people; p++) {
                if (isIn(hearers, p)) {
                    being.tongue[p] |= 1 << word;
                }
            }
        }

        void moveTo(int person, int place) {
            if (hasPerson(person)) {
                being.at[person] = place;
                book.add(being.day, MOVED, person, place);
            }
        }

        void learn(int person, int word) {
            if (hasPerson(person) && hasWord(word)) {
                being.tongue[person] |= 1 << word;
                book.add(being.day, TAUGHT, person, word);
            }
        }

        void revive(int word) {
            if (hasWord(word)) {
                being.lapsed &= ~(1 << word);
                being.unsaid[word] = 0;
                book.add(being.day, CARVED, NONE, word);
            }
        }

        void passDay() {
            walk();
            if (chat > 0) {
                chatter();
            }
            age();
            for (int p = 0; p < people; p++) {
                breathe(p, BREATH_BY_NIGHT);
            }
            being.day++;
        }

        private void walk() {
            for (int i = 0; i < walks.count; i++) {
                if (walks.cell(i, 0) != being.day) {
                    continue;
                }
                int person = walks.cell(i, 1);
                int deed = walks.cell(i, 2);
                int which = walks.cell(i, 3);
                if (deed == RESTS) {
                    breathe(person, BREATH_BY_REST);
                } else if (deed == SAYS && canSpeak(person, which)) {
                    speak(person, which);
                } else if (deed == GOES && hasPerson(person) && being.at[person] != which) {
                    moveTo(person, which);
                }
            }
        }

        private void breathe(int person, int more) {
            if (hasPerson(person)) {
                being.breath[person] = Math.min(BREATH_MOST, being.breath[person] + more);
            }
        }

        private void chatter() {
            for (int p = 0; p < people; p++) {
                if (draw(CHAT_MOST) < chat) {
                    int word = longestUnsaid(being.tongue[p] & living());
                    if (canSpeak(p, word)) {
                        speak(p, word);
                    }
                }
            }
        }

        private int draw(int below) {
            being.draws = being.draws * 1664525 + 1013904223;
            return below < 1 ? 0 : (being.draws >>> 8) % below;
        }

        private int longestUnsaid(int set) {
            int longest = NONE;
            for (int w = 0; w < words; w++) {
                if (isIn(set, w) && (longest == NONE || being.unsaid[w] > being.unsaid[longest])) {
                    longest = w;
                }
            }
            return longest;
        }

        private void age() {
            for (int w = 0; w < words; w++) {
                if (hasLapsed(w)) {
                    continue;
                }
                being.unsaid[w] = Math.min(UNSAID_MOST, being.unsaid[w] + 1);
                if (being.unsaid[w] >= lawFor(KEEP, w, 0)) {
                    lapse(w);
                }
            }
        }

        private void lapse(int word) {
            being.lapsed |= 1 << word;
            for (int p = 0; p < people; p++) {
                being.tongue[p] &= ~(1 << word);
            }
            book.add(being.day, LAPSED, NONE, word);
        }
    }

    /** What was before the latest deeds, in a ring, so that keeping one more moves nothing. */
    static final class Past {
        int count;
        private int latest;
        private final Being[] beings = new Being[UNDO_MOST];
        private final int[] bookLines = new int[UNDO_MOST];

        Past() {
            for (int i = 0; i < UNDO_MOST; i++) {
                beings[i] = new Being();
            }
        }

        void keep(World world) {
            latest = (latest + 1) % UNDO_MOST;
            beings[latest].become(world.being);
            bookLines[latest] = world.book.count;
            count = Math.min(UNDO_MOST, count + 1);
        }

        boolean bringBack(World world) {
            if (count < 1) {
                return false;
            }
            world.being.become(beings[latest]);
            world.book.count = bookLines[latest];
            latest = (latest + UNDO_MOST - 1) % UNDO_MOST;
            count--;
            return true;
        }

        void forget() {
            count = 0;
        }
    }

    static final class Tape {
        int length;
        private final byte[] bytes = new byte[TAPE_MOST];

        void put(int number) {
            for (int shift = 24; shift >= 0 && length < TAPE_MOST; shift -= 8) {
                bytes[length] = (byte) (number >> shift);
                length++;
            }
        }

        /** A byte without sign; outside of the TAPE one that no TEXT has. */
        int at(int i) {
            return i < 0 || i >= length || i >= TAPE_MOST ? 0 : bytes[i] & 255;
        }
    }

    /** Reads the TEXTS. The first FAULT met ends the reading: tokens are met by their places. */
    static final class Texts {
        int fault;
        int faultPlace = NONE;
        private int count;
        private int next;
        private final int[] kinds = new int[TAPE_MOST + 1];
        private final int[] places = new int[TAPE_MOST + 1];
        private final int[] values = new int[TAPE_MOST + 1];
        /** The latest NUMBER that takeNumber took. */
        private int taken;

        /** The TEXT, told for one World, into another one: how many lines; NONE behind a FAULT. */
        int read(int k, Tape tape, World told, World into) {
            fault = 0;
            faultPlace = NONE;
            if (k < MEANINGS_TEXT || k > NEEDS_TEXT) {
                return NONE;
            }
            cut(tape);
            into.meanings.count = 0;
            into.law.clear();
            into.walks.count = 0;
            into.needs.count = 0;
            int lines = 0;
            for (int i = 0; i < TAPE_MOST && kind() != END; i++) {
                boolean good;
                if (k == MEANINGS_TEXT) {
                    good = readMeaning(told, into.meanings);
                } else if (k == LAW_TEXT) {
                    good = readLaw(into.law);
                } else if (k == WALKS_TEXT) {
                    good = readWalk(told, into.walks);
                } else {
                    good = readNeed(told, into.needs);
                }
                if (!good) {
                    return NONE;
                }
                lines++;
            }
            return lines;
        }

        // Tokens.

        private void cut(Tape tape) {
            count = 0;
            next = 0;
            for (int i = 0; i < tape.length; i++) {
                int sign = tape.at(i);
                int before = tape.at(i - 1);
                boolean isInside = isLetter(sign) && isLetter(before) || isDigit(sign) && isDigit(before);
                if (sign == ' ' || sign == '\n' || isInside) {
                    continue;
                }
                if (isLetter(sign)) {
                    addToken(keyword(tape, i, endOfLetters(tape, i)), i, 0);
                } else if (isDigit(sign)) {
                    int to = endOfDigits(tape, i);
                    addToken(to - i > DIGITS_MOST ? STRANGE : NUMBER, i, number(tape, i, to));
                } else {
                    addToken(isSign(sign) ? sign : STRANGE, i, 0);
                }
            }
            addToken(END, tape.length, 0);
        }

        private static int endOfLetters(Tape tape, int from) {
            int to = from + 1;
            while (to < tape.length && isLetter(tape.at(to))) {
                to++;
            }
            return to;
        }

        private static int endOfDigits(Tape tape, int from) {
            int to = from + 1;
            while (to < tape.length && isDigit(tape.at(to))) {
                to++;
            }
            return to;
        }

        private void addToken(int kind, int place, int value) {
            if (count <= TAPE_MOST) {
                kinds[count] = kind;
                places[count] = place;
                values[count] = value;
                count++;
            }
        }

        private static boolean isLetter(int sign) {
            return sign >= 'a' && sign <= 'z' || sign >= 'A' && sign <= 'Z';
        }

        private static boolean isDigit(int sign) {
            return sign >= '0' && sign <= '9';
        }

        private static boolean isSign(int sign) {
            return SIGNS.indexOf((char) sign) >= 0;
        }

        private static int number(Tape tape, int from, int to) {
            int value = 0;
            for (int i = from; i < to && i < from + DIGITS_MOST; i++) {
                value = value * 10 + tape.at(i) - '0';
            }
            return value;
        }

        private static int keyword(Tape tape, int from, int to) {
            int kind = KEYWORD;
            int start = 0;
            for (int i = 0; i < KEYWORDS.length(); i++) {
                if (KEYWORDS.charAt(i) == ' ') {
                    if (i - start == to - from && isKeyword(tape, from, to, start)) {
                        return kind;
                    }
                    kind++;
                    start = i + 1;
                }
            }
            return STRANGE;
        }

        /** Whether the letters of the TAPE stand in KEYWORDS from start on. */
        private static boolean isKeyword(Tape tape, int from, int to, int start) {
            for (int i = from; i < to; i++) {
                int at = start + i - from;
                if (at >= KEYWORDS.length() || KEYWORDS.charAt(at) != tape.at(i)) {
                    return false;
                }
            }
            return true;
        }

        private int kind() {
            return next < 0 || next >= count || next > TAPE_MOST ? END : kinds[next];
        }

        private int ofNext(int[] row) {
            return next < 0 || next >= count || next >= row.length ? END : row[next];
        }

        /** Always false, so that a reader can end with it. */
        private boolean refuse(int why) {
            fault = why;
            faultPlace = ofNext(places);
            return false;
        }

        private boolean take(int kind) {
            if (kind() != kind) {
                return refuse(MISPLACED);
            }
            next++;
            return true;
        }

        private boolean takeNumber(int least, int most) {
            if (kind() != NUMBER) {
                return refuse(MISPLACED);
            }
            taken = ofNext(values);
            if (taken < least || taken > most) {
                return refuse(NOT_THERE);
            }
            next++;
            return true;
        }

        /** A line's KEYWORD, of which there may not be more. */
        private boolean takeHead(int kind, int lines, int most) {
            if (kind() != kind) {
                return refuse(MISPLACED);
            }
            if (lines >= most) {
                return refuse(TOO_MANY);
            }
            next++;
            return true;
        }

        // The lines.

        private boolean readMeaning(World told, Meanings meanings) {
            if (!takeHead(MEANS, meanings.count, MEANINGS_MOST)) {
                return false;
            }
            meanings.open();
            for (int i = 0; i <= WORDINGS_MOST; i++) {
                if (!readWording(told, meanings)) {
                    return false;
                }
                if (kind() != OR) {
                    return take(';');
                }
                if (meanings.isLatestFull()) {
                    return refuse(TOO_MANY);
                }
                next++;
            }
            return false;
        }

        private boolean readWording(World told, Meanings meanings) {
            int set = 0;
            int lasting = 0;
            for (int i = 0; i <= WORDING_WORDS_MOST; i++) {
                if (i > 0 && kind() != NUMBER) {
                    break;
                }
                int place = next;
                if (!takeNumber(0, told.words - 1)) {
                    return false;
                }
                if (i == WORDING_WORDS_MOST) {
                    next = place;
                    return refuse(TOO_MANY);
                }
                set |= 1 << taken;
                lasting += told.lasting[taken];
            }
            return meanings.addWording(set, lasting);
        }

        private boolean readWalk(World told, Rows walks) {
            if (!takeHead(ON, walks.count, WALKS_MOST) || !takeNumber(0, TOLD_DAY_MOST)) {
                return false;
            }
            int day = taken;
            if (!takeNumber(0, told.people - 1)) {
                return false;
            }
            int person = taken;
            int deed = kind();
            if (deed != GOES && deed != SAYS && deed != RESTS) {
                return refuse(MISPLACED);
            }
            next++;
            taken = NONE;
            if (deed != RESTS && !takeNumber(0, deed == GOES ? PLACES - 1 : told.words - 1)) {
                return false;
            }
            walks.add(day, person, deed, taken);
            return take(';');
        }

        private boolean readNeed(World told, Rows needs) {
            if (!takeHead(NEED, needs.count, NEEDS_MOST)
                    || !takeNumber(0, told.meanings.count - 1)) {
                return false;
            }
            int meaning = taken;
            if (!take(BY) || !takeNumber(0, TOLD_DAY_MOST)) {
                return false;
            }
            int day = taken;
            if (!take(WORTH) || !takeNumber(1, WORTH_MOST)) {
                return false;
            }
            needs.add(meaning, day, taken, 0);
            return take(';');
        }

        private boolean readLaw(Law law) {
            int kind = kind();
            if (kind != KEEP && kind != HEAR && kind != TIRE) {
                return refuse(MISPLACED);
            }
            if (!takeHead(kind, law.count, LAW_MOST)) {
                return false;
            }
            law.open(kind);
            if (!readSum(law)) {
                return false;
            }
            law.openCondition();
            if (kind() == WHEN) {
                next++;
                if (!readEither(law, 0)) {
                    return false;
                }
            }
            law.close();
            return take(';');
        }

        /** B, with so many ( and not open. */
        private boolean readEither(Law law, int open) {
            for (int i = 0; i <= TAPE_MOST; i++) {
                if (!readCondition(law, open)) {
                    return false;
                }
                for (int j = 0; j <= TAPE_MOST && kind() == AND; j++) {
                    next++;
                    if (!readCondition(law, open)) {
                        return false;
                    }
                    law.emit(OPERATOR_CELL + AND);
                }
                if (i > 0) {
                    law.emit(OPERATOR_CELL + OR);
                }
                if (kind() != OR) {
                    return true;
                }
                next++;
            }
            return false;
        }

        /** C, with so many ( and not open. */
        private boolean readCondition(Law law, int open) {
            int kind = kind();
            if (kind == NOT || kind == '(') {
                if (open >= OPEN_MOST) {
                    return refuse(TOO_MANY);
                }
                next++;
                if (kind == '(') {
                    return readEither(law, open + 1) && take(')');
                }
                if (!readCondition(law, open + 1)) {
                    return false;
                }
                law.emit(OPERATOR_CELL + NOT);
                return true;
            }
            if (!readSum(law)) {
                return false;
            }
            int comparison = kind();
            if (comparison != '<' && comparison != '=' && comparison != '>') {
                return refuse(MISPLACED);
            }
            next++;
            if (!readSum(law)) {
                return false;
            }
            law.emit(OPERATOR_CELL + comparison);
            return true;
        }

        /** E. Operators wait for their right side: times for the next number or fact, plus for the next product. */
        private boolean readSum(Law law) {
            int times = 0;
            int plus = 0;
            for (int i = 0; i <= TAPE_MOST; i++) {
                int kind = kind();
                boolean isFact = kind >= FIRST_FACT && kind < FIRST_FACT + FACTS;
                if (kind != NUMBER && (!isFact || times == '/')) {
                    return refuse(MISPLACED);
                }
                int value = ofNext(values);
                if (times == '/' && value == 0) {
                    return refuse(NOT_THERE);
                }
                law.emit(isFact ? FACT_CELL + kind - FIRST_FACT : value);
                next++;
                if (times != 0) {
                    law.emit(OPERATOR_CELL + times);
                }
                times = kind() == '*' || kind() == '/' ? kind() : 0;
                if (times != 0) {
                    next++;
                    continue;
                }
                if (plus != 0) {
                    law.emit(OPERATOR_CELL + plus);
                }
                plus = kind() == '+' || kind() == '-' ? kind() : 0;
                if (plus == 0) {
                    return true;
                }
                next++;
            }
            return false;
        }
    }

    /** What is found IN THOUGHT from a World that stays as it is. Sets are walked from the least on. */
    static final class Thought {
        static int mostToGo(World world) {
            int living = world.living();
            int sayable = world.sayable();
            int best = 0;
            for (int set = 1; set <= living; set++) {
                if ((set & ~living) == 0 && Integer.bitCount(set) > Integer.bitCount(best)
                        && (sayable & ~world.meanings.sayableWith(living & ~set)) == 0) {
                    best = set;
                }
            }
            return best;
        }

        static int fewestToCarve(World world) {
            int all = (1 << world.meanings.count) - 1;
            return fewestToAdd(world, world.living(), world.being.lapsed, all);
        }

        static int fewestToTeach(World world, int person) {
            if (!world.hasPerson(person)) {
                return 0;
            }
            int tongue = world.being.tongue[person];
            return fewestToAdd(world, tongue, world.living() & ~tongue, world.sayable());
        }

        /** All that may be added are always enough, so the search begins with them. */
        private static int fewestToAdd(World world, int had, int more, int meanings) {
            int best = more;
            for (int set = 0; set < more; set++) {
                if ((set & ~more) == 0 && Integer.bitCount(set) < Integer.bitCount(best)
                        && (meanings & ~world.meanings.sayableWith(had | set)) == 0) {
                    best = set;
                }
            }
            return best;
        }

        static int fewestKeepers(World world) {
            int all = (1 << world.people) - 1;
            int words = tonguesTogether(world, all);
            int best = all;
            for (int set = 0; set < all; set++) {
                if (Integer.bitCount(set) < Integer.bitCount(best)
                        && tonguesTogether(world, set) == words) {
                    best = set;
                }
            }
            return best;
        }

        private static int tonguesTogether(World world, int people) {
            int words = 0;
            for (int p = 0; p < world.people; p++) {
                if (World.isIn(people, p)) {
                    words |= world.being.tongue[p];
                }
            }
            return words;
        }

        static int cost(World world, int person) {
            if (!world.hasPerson(person)) {
                return 0;
            }
            int others = (1 << world.people) - 1 & ~(1 << person);
            return Integer.bitCount(world.being.tongue[person] & ~tonguesTogether(world, others));
        }

        static int dearest(World world) {
            int best = NONE;
            int most = NONE;
            for (int p = 0; p < world.people; p++) {
                int cost = cost(world, p);
                if (cost > most) {
                    most = cost;
                    best = p;
                }
            }
            return best;
        }

        static int fewestMiles(World world, int from, int places) {
            return milesThrough(world, from, places, 0);
        }

        private static int milesThrough(World world, int from, int places, int depth) {
            if (places == 0 || depth >= ROUND_MOST) {
                return 0;
            }
            int fewest = NONE;
            for (int to = 0; to < PLACES; to++) {
                if (World.isIn(places, to)) {
                    int miles = world.milesBetween(from, to)
                            + milesThrough(world, to, places & ~(1 << to), depth + 1);
                    fewest = fewest == NONE ? miles : Math.min(fewest, miles);
                }
            }
            return fewest;
        }

        static int placeOnRound(World world, int from, int places, int i) {
            int at = from;
            int left = places;
            for (int step = 0; step <= i && step < ROUND_MOST && left != 0; step++) {
                int to = firstOnRound(world, at, left);
                if (to == NONE) {
                    return NONE;
                }
                at = to;
                left &= ~(1 << to);
            }
            return at;
        }

        private static int firstOnRound(World world, int from, int places) {
            int fewest = milesThrough(world, from, places, 0);
            for (int to = 0; to < PLACES; to++) {
                if (World.isIn(places, to) && world.milesBetween(from, to)
                        + milesThrough(world, to, places & ~(1 << to), 0) == fewest) {
                    return to;
                }
            }
            return NONE;
        }

        /** So many of a set of WORDS, of which none left out is UNSAID for longer. */
        static int longestUnsaid(World world, int words, int n) {
            int chosen = 0;
            for (int i = 0; i < n; i++) {
                int word = world.longestUnsaid(words & ~chosen);
                if (word == NONE) {
                    return chosen;
                }
                chosen |= 1 << word;
            }
            return chosen;
        }

        static int unsaidTogether(World world, int words) {
            int sum = 0;
            for (int w = 0; w < world.words; w++) {
                if (World.isIn(words, w)) {
                    sum += world.being.unsaid[w];
                }
            }
            return sum;
        }

        static int longTogether(World world, int words) {
            int sum = 0;
            for (int w = 0; w < world.words; w++) {
                if (World.isIn(words, w)) {
                    sum += world.lasting[w];
                }
            }
            return sum;
        }

        static int speakers(World world) {
            int speakers = (1 << world.people) - 1;
            for (int i = 0; i < world.talks.count; i++) {
                speakers &= world.knowers(world.talks.cell(i, 0));
                int place = world.talks.cell(i, 1);
                if (place != NONE) {
                    speakers &= world.peopleAt(place);
                }
            }
            return speakers;
        }

        static int wordToHear(World world, int speakers) {
            int all = Integer.bitCount(speakers);
            if (all < 2) {
                return NONE;
            }
            int best = NONE;
            int least = all + 1;
            for (int w = 0; w < world.words; w++) {
                int having = Integer.bitCount(speakers & world.knowers(w));
                int greater = Math.max(having, all - having);
                if (greater < least) {
                    least = greater;
                    best = w;
                }
            }
            return best;
        }

        static int understood(World world, int a, int b) {
            if (!world.hasPerson(a) || !world.hasPerson(b)) {
                return 0;
            }
            int both = world.being.tongue[a] & world.being.tongue[b];
            return Integer.bitCount(world.meanings.sayableWith(both));
        }

        static int circleAround(World world, int person) {
            int circle = 1 << person;
            // Each time round the circle grows or stays for good: as many times as PEOPLE are enough.
            for (int i = 0; i < world.people; i++) {
                circle = widened(world, circle);
            }
            return circle;
        }

        private static int widened(World world, int circle) {
            int wider = circle;
            for (int a = 0; a < world.people; a++) {
                for (int b = 0; b < world.people && World.isIn(circle, a); b++) {
                    if (understood(world, a, b) > 0) {
                        wider |= 1 << b;
                    }
                }
            }
            return wider;
        }

        static int longestVerse(World world) {
            int living = world.living();
            int best = 0;
            int most = 0;
            for (int set = 1; set <= living; set++) {
                if ((set & ~living) != 0) {
                    continue;
                }
                int lasting = longTogether(world, set);
                if (lasting > most && isWithoutKin(world, set)) {
                    most = lasting;
                    best = set;
                }
            }
            return best;
        }

        private static boolean isWithoutKin(World world, int words) {
            for (int w = 0; w < world.words; w++) {
                if (World.isIn(words, w) && (world.kinOf[w] & words) != 0) {
                    return false;
                }
            }
            return true;
        }

        static int fullestPlace(World world) {
            int best = 0;
            int most = 0;
            for (int place = 0; place < PLACES; place++) {
                int there = Integer.bitCount(world.peopleAt(place));
                if (there > most) {
                    most = there;
                    best = place;
                }
            }
            return best;
        }

        static int wordsInAllTongues(World world, int people) {
            int words = people == 0 ? 0 : (1 << world.words) - 1;
            for (int p = 0; p < world.people; p++) {
                if (World.isIn(people, p)) {
                    words &= world.being.tongue[p];
                }
            }
            return Integer.bitCount(words);
        }

        static int heapSum(World world) {
            int sum = 0;
            for (int w = 0; w < world.words; w++) {
                if (!world.hasLapsed(w)) {
                    sum ^= world.heap(w);
                }
            }
            return sum;
        }

        /** The WORD whose heap can be made so that all heaps even out; NONE if they do already. */
        static int wordToSilence(World world, int sum) {
            for (int w = 0; w < world.words; w++) {
                if (!world.hasLapsed(w) && (world.heap(w) ^ sum) < world.heap(w)) {
                    return w;
                }
            }
            return NONE;
        }
    }
}
