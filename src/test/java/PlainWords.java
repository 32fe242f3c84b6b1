import java.util.ArrayList;
import java.util.List;
import java.util.TreeSet;

/**
 * The document once more, in the plainest form and by other ways than the class goes: lists and
 * sets, whole copies, trees for THE LAW, all subsets and all orders tried. For RunsTest alone.
 */
final class PlainWords {
    static final int NONE = -1;

    /** A part of THE LAW: what it comes to with these facts (a condition: 1 or 0). */
    interface Part {
        int with(int[] facts);
    }

    static final class Fault extends RuntimeException {
        private static final long serialVersionUID = 1L;
        final int what;
        final int place;

        Fault(int what, int place) {
            this.what = what;
            this.place = place;
        }
    }

    static final class Line {
        String kind;
        Part worth;
        Part when;
    }

    static final class Word {
        int lasting;
        int unsaid;
        int said;
        boolean lapsed;
        TreeSet<Integer> kin = new TreeSet<>();

        Word copy() {
            Word w = new Word();
            w.lasting = lasting;
            w.unsaid = unsaid;
            w.said = said;
            w.lapsed = lapsed;
            w.kin.addAll(kin);
            return w;
        }
    }

    static final class Person {
        int at;
        int breath = 50;
        TreeSet<Integer> tongue = new TreeSet<>();

        Person copy() {
            Person p = new Person();
            p.at = at;
            p.breath = breath;
            p.tongue.addAll(tongue);
            return p;
        }
    }

    static final class All {
        List<Word> words = new ArrayList<>();
        List<Person> people = new ArrayList<>();
        int[][] miles = new int[10][10];
        int chat;
        int day;
        int draws;
        List<int[]> book = new ArrayList<>();
        List<List<List<Integer>>> meanings = new ArrayList<>();
        List<Line> law = new ArrayList<>();
        List<int[]> walks = new ArrayList<>();
        List<int[]> needs = new ArrayList<>();
        List<int[]> talk = new ArrayList<>();

        All copy() {
            All a = new All();
            for (Word w : words) {
                a.words.add(w.copy());
            }
            for (Person p : people) {
                a.people.add(p.copy());
            }
            for (int i = 0; i < 10; i++) {
                a.miles[i] = miles[i].clone();
            }
            a.chat = chat;
            a.day = day;
            a.draws = draws;
            a.book.addAll(book);
            a.meanings = meanings;
            a.law = law;
            a.walks = walks;
            a.needs = needs;
            a.talk.addAll(talk);
            return a;
        }
    }

    All all = new All();
    private All image;
    private List<All> before = new ArrayList<>();
    private List<Integer> tape = new ArrayList<>();
    private int fault;
    private int faultPlace = NONE;

    PlainWords() {
        for (int a = 0; a < 10; a++) {
            for (int b = 0; b < 10; b++) {
                all.miles[a][b] = a == b ? 0 : 10;
            }
        }
    }

    // What is told.

    int state(int v) {
        int was = all.draws;
        all.draws = v;
        before.clear();
        return was;
    }

    int word(int lasting) {
        if (lasting < 1 || lasting > 20 || all.words.size() == 14) {
            return NONE;
        }
        Word w = new Word();
        w.lasting = lasting;
        all.words.add(w);
        before.clear();
        return all.words.size() - 1;
    }

    int person(int place) {
        if (place < 0 || place > 9 || all.people.size() == 10) {
            return NONE;
        }
        Person p = new Person();
        p.at = place;
        all.people.add(p);
        before.clear();
        return all.people.size() - 1;
    }

    boolean set(int what, int who, int v) {
        if (what == 0) {
            if (v < 0 || v > 1000) {
                return false;
            }
            all.chat = v;
        } else if (what == 1) {
            if (noPerson(who) || v < 0 || v > 99) {
                return false;
            }
            all.people.get(who).breath = v;
        } else if (what == 2) {
            if (noWord(who) || v < 0 || v > 9999) {
                return false;
            }
            all.words.get(who).unsaid = v;
        } else {
            return false;
        }
        before.clear();
        return true;
    }

    boolean kin(int a, int b, boolean is) {
        if (noWord(a) || noWord(b) || a == b) {
            return false;
        }
        if (is) {
            all.words.get(a).kin.add(b);
            all.words.get(b).kin.add(a);
        } else {
            all.words.get(a).kin.remove(b);
            all.words.get(b).kin.remove(a);
        }
        before.clear();
        return true;
    }

    boolean miles(int a, int b, int v) {
        if (noPlace(a) || noPlace(b) || a == b || v < 0 || v > 99) {
            return false;
        }
        all.miles[a][b] = v;
        all.miles[b][a] = v;
        before.clear();
        return true;
    }

    private boolean noWord(int w) {
        return w < 0 || w >= all.words.size();
    }

    private boolean noPerson(int p) {
        return p < 0 || p >= all.people.size();
    }

    private static boolean noPlace(int place) {
        return place < 0 || place > 9;
    }

    // The law.

    private int law(String kind, int word, int place) {
        Word w = all.words.get(word);
        int kin = 0;
        for (int k : w.kin) {
            kin += all.words.get(k).lapsed ? 0 : 1;
        }
        int knows = 0;
        for (Person p : all.people) {
            knows += p.tongue.contains(word) ? 1 : 0;
        }
        int[] facts = {word, w.lasting, w.unsaid, w.said, kin, knows, place, all.day};
        int v = kind.equals("keep") ? 365 : kind.equals("hear") ? 2 : w.lasting;
        for (Line line : all.law) {
            if (line.kind.equals(kind) && (line.when == null || line.when.with(facts) == 1)) {
                v = line.worth.with(facts);
                break;
            }
        }
        int least = kind.equals("keep") ? 1 : 0;
        int most = kind.equals("keep") ? 9999 : kind.equals("hear") ? 9 : 99;
        return v < least ? least : v > most ? most : v;
    }

    // Deeds.

    private void write(int what, int who, int which) {
        if (all.book.size() < 150) {
            all.book.add(new int[] {all.day, what, who, which});
        }
    }

    private void remember() {
        before.add(all.copy());
        if (before.size() > 6) {
            before.remove(0);
        }
    }

    private int sayNow(int person, int word) {
        if (noPerson(person) || noWord(word)) {
            return NONE;
        }
        Person p = all.people.get(person);
        Word w = all.words.get(word);
        int tire = law("tire", word, p.at);
        int hear = law("hear", word, p.at);
        if (!p.tongue.contains(word) || w.lapsed || p.breath < tire) {
            return NONE;
        }
        int others = 0;
        for (Person other : all.people) {
            if (other != p && other.at == p.at && other.tongue.contains(word)) {
                others++;
            }
        }
        p.breath -= tire;
        if (others < hear) {
            write(1, person, word);
            return 0;
        }
        w.unsaid = 0;
        w.said++;
        for (int k : w.kin) {
            Word kin = all.words.get(k);
            if (!kin.lapsed) {
                kin.unsaid = kin.unsaid / 2;
            }
        }
        for (Person other : all.people) {
            if (other.at == p.at) {
                other.tongue.add(word);
            }
        }
        write(0, person, word);
        return 1;
    }

    int say(int person, int word) {
        All was = all.copy();
        int heard = sayNow(person, word);
        if (heard != NONE) {
            remember();
            before.set(before.size() - 1, was);
        }
        return heard;
    }

    boolean move(int person, int place) {
        if (noPerson(person) || noPlace(place) || all.people.get(person).at == place) {
            return false;
        }
        remember();
        all.people.get(person).at = place;
        write(3, person, place);
        return true;
    }

    boolean teach(int person, int word) {
        if (noPerson(person) || noWord(word) || all.words.get(word).lapsed
                || all.people.get(person).tongue.contains(word)) {
            return false;
        }
        remember();
        all.people.get(person).tongue.add(word);
        write(4, person, word);
        return true;
    }

    boolean carve(int word) {
        if (noWord(word) || !all.words.get(word).lapsed) {
            return false;
        }
        remember();
        all.words.get(word).lapsed = false;
        all.words.get(word).unsaid = 0;
        write(5, NONE, word);
        return true;
    }

    /** One DAY: the first WORD that LAPSES in it, and how many do. */
    private int[] day() {
        for (int[] walk : all.walks) {
            Person p = all.people.get(walk[1]);
            if (walk[0] != all.day) {
                continue;
            }
            if (walk[2] == 0 && p.at != walk[3]) {
                p.at = walk[3];
                write(3, walk[1], walk[3]);
            }
            if (walk[2] == 1) {
                sayNow(walk[1], walk[3]);
            }
            if (walk[2] == 2) {
                p.breath = p.breath + 20 > 99 ? 99 : p.breath + 20;
            }
        }
        for (int p = 0; p < all.people.size() && all.chat > 0; p++) {
            all.draws = all.draws * 1664525 + 1013904223;
            long high = (all.draws & 0xFFFFFFFFL) / 256;
            if (high % 1000 >= all.chat) {
                continue;
            }
            int oldest = NONE;
            for (int w : all.people.get(p).tongue) {
                if (oldest == NONE || all.words.get(w).unsaid > all.words.get(oldest).unsaid) {
                    oldest = w;
                }
            }
            sayNow(p, oldest);
        }
        int[] gone = {NONE, 0};
        for (int w = 0; w < all.words.size(); w++) {
            Word word = all.words.get(w);
            if (word.lapsed) {
                continue;
            }
            if (word.unsaid < 9999) {
                word.unsaid++;
            }
            if (word.unsaid >= law("keep", w, 0)) {
                word.lapsed = true;
                for (Person p : all.people) {
                    p.tongue.remove(w);
                }
                write(2, NONE, w);
                gone[0] = gone[0] == NONE ? w : gone[0];
                gone[1]++;
            }
        }
        for (Person p : all.people) {
            p.breath = Math.min(99, p.breath + 5);
        }
        all.day++;
        return gone;
    }

    int days(int n) {
        if (n < 1 || n > 60 || all.day + n > 9999) {
            return NONE;
        }
        int lapsed = 0;
        for (int i = 0; i < n; i++) {
            remember();
            lapsed += day()[1];
        }
        return lapsed;
    }

    // Texts.

    int feed(int a, int b, int c, int d, int e) {
        if (tape.size() > 380) {
            return NONE;
        }
        for (int v : new int[] {a, b, c, d, e}) {
            for (int i = 3; i >= 0; i--) {
                tape.add(v >> 8 * i & 255);
            }
        }
        return tape.size();
    }

    boolean end(int n) {
        if (n < 0 || n > tape.size()) {
            return false;
        }
        tape = new ArrayList<>(tape.subList(0, n));
        return true;
    }

    int text(int k) {
        StringBuilder text = new StringBuilder();
        for (int sign : tape) {
            text.append((char) sign);
        }
        tape.clear();
        fault = 0;
        faultPlace = NONE;
        if (k < 0 || k > 3) {
            return NONE;
        }
        try {
            return new Reader(text.toString()).read(k);
        } catch (Fault f) {
            fault = f.what;
            faultPlace = f.place;
            return NONE;
        }
    }

    int fault(int what) {
        return what == 0 ? fault : what == 1 ? faultPlace : NONE;
    }

    /** Reads sign by sign, without tokens cut ahead. */
    private final class Reader {
        private final String text;
        private int at = 0;
        private int open = 0;

        Reader(String text) {
            this.text = text;
        }

        private void blanks() {
            while (at < text.length() && (text.charAt(at) == ' ' || text.charAt(at) == '\n')) {
                at++;
            }
        }

        /** The token that stands here, whole; "" at the end. */
        private String peek() {
            blanks();
            int to = at;
            while (to < text.length() && Character.isLetter(text.charAt(to)) && text.charAt(to) < 128) {
                to++;
            }
            if (to == at) {
                while (to < text.length() && text.charAt(to) >= '0' && text.charAt(to) <= '9') {
                    to++;
                }
            }
            if (to == at && to < text.length()) {
                to++;
            }
            return text.substring(at, to);
        }

        private boolean is(String token) {
            return peek().equals(token);
        }

        private boolean isNumber() {
            return peek().matches("[0-9]{1,4}");
        }

        private Fault wrong(int what) {
            blanks();
            return new Fault(what, at);
        }

        private void take(String token) {
            if (!is(token)) {
                throw wrong(1);
            }
            at += token.length();
        }

        private int number(int least, int most) {
            if (!isNumber()) {
                throw wrong(1);
            }
            int v = Integer.parseInt(peek());
            if (v < least || v > most) {
                throw wrong(2);
            }
            at += peek().length();
            return v;
        }

        int read(int k) {
            int lines = 0;
            List<List<List<Integer>>> meanings = new ArrayList<>();
            List<Line> law = new ArrayList<>();
            List<int[]> rows = new ArrayList<>();
            int most = new int[] {10, 16, 16, 12}[k];
            while (!is("")) {
                String head = k == 1 && (is("keep") || is("hear") || is("tire")) ? peek()
                        : new String[] {"means", "keep", "on", "need"}[k];
                if (is(head) && lines == most) {
                    throw wrong(3);
                }
                take(head);
                if (k == 0) {
                    meanings.add(meaning());
                } else if (k == 1) {
                    law.add(law(head));
                } else {
                    rows.add(k == 2 ? walk() : need());
                }
                take(";");
                lines++;
            }
            if (k == 0) {
                all.meanings = meanings;
                all.needs = new ArrayList<>();
            } else if (k == 1) {
                all.law = law;
            } else if (k == 2) {
                all.walks = rows;
                before.clear();
            } else {
                all.needs = rows;
            }
            return lines;
        }

        private List<List<Integer>> meaning() {
            List<List<Integer>> wordings = new ArrayList<>();
            wordings.add(wording());
            while (is("or")) {
                if (wordings.size() == 6) {
                    throw wrong(3);
                }
                take("or");
                wordings.add(wording());
            }
            return wordings;
        }

        private List<Integer> wording() {
            List<Integer> words = new ArrayList<>();
            do {
                int place = at;
                int word = number(0, all.words.size() - 1);
                if (words.size() == 6) {
                    at = place;
                    throw wrong(3);
                }
                words.add(word);
            } while (isNumber());
            return words;
        }

        private int[] walk() {
            int day = number(0, 999);
            int person = number(0, all.people.size() - 1);
            if (is("goes")) {
                take("goes");
                return new int[] {day, person, 0, number(0, 9)};
            }
            if (is("says")) {
                take("says");
                return new int[] {day, person, 1, number(0, all.words.size() - 1)};
            }
            take("rests");
            return new int[] {day, person, 2, NONE};
        }

        private int[] need() {
            int meaning = number(0, all.meanings.size() - 1);
            take("by");
            int day = number(0, 999);
            take("worth");
            return new int[] {meaning, day, number(1, 99)};
        }

        private Line law(String kind) {
            Line line = new Line();
            line.kind = kind;
            line.worth = sum();
            if (is("when")) {
                take("when");
                line.when = either();
            }
            return line;
        }

        private Part either() {
            Part left = both();
            while (is("or")) {
                take("or");
                Part a = left;
                Part b = both();
                left = facts -> a.with(facts) == 1 || b.with(facts) == 1 ? 1 : 0;
            }
            return left;
        }

        private Part both() {
            Part left = condition();
            while (is("and")) {
                take("and");
                Part a = left;
                Part b = condition();
                left = facts -> a.with(facts) == 1 && b.with(facts) == 1 ? 1 : 0;
            }
            return left;
        }

        private Part condition() {
            if (is("not") || is("(")) {
                boolean not = is("not");
                if (open == 8) {
                    throw wrong(3);
                }
                take(not ? "not" : "(");
                open++;
                Part inner = not ? condition() : either();
                if (!not) {
                    take(")");
                }
                open--;
                return not ? facts -> 1 - inner.with(facts) : inner;
            }
            Part a = sum();
            String sign = peek();
            if (!sign.equals("<") && !sign.equals("=") && !sign.equals(">")) {
                throw wrong(1);
            }
            take(sign);
            Part b = sum();
            return facts -> {
                int x = a.with(facts);
                int y = b.with(facts);
                return (sign.equals("<") ? x < y : sign.equals("=") ? x == y : x > y) ? 1 : 0;
            };
        }

        private Part sum() {
            Part left = product();
            while (is("+") || is("-")) {
                boolean plus = is("+");
                take(plus ? "+" : "-");
                Part a = left;
                Part b = product();
                left = facts -> plus ? a.with(facts) + b.with(facts) : a.with(facts) - b.with(facts);
            }
            return left;
        }

        private Part product() {
            Part left = unit();
            while (is("*") || is("/")) {
                Part a = left;
                if (is("*")) {
                    take("*");
                    Part b = unit();
                    left = facts -> a.with(facts) * b.with(facts);
                } else {
                    take("/");
                    int by = number(1, 9999);
                    left = facts -> a.with(facts) / by;
                }
            }
            return left;
        }

        private Part unit() {
            String[] names = {"word", "long", "unsaid", "said", "kin", "knows", "at", "day"};
            for (int i = 0; i < names.length; i++) {
                if (is(names[i])) {
                    int fact = i;
                    take(names[i]);
                    return facts -> facts[fact];
                }
            }
            int v = number(0, 9999);
            return facts -> v;
        }
    }

    // Looks.

    private static int bits(Iterable<Integer> set) {
        int bits = 0;
        for (int i : set) {
            bits |= 1 << i;
        }
        return bits;
    }

    private static TreeSet<Integer> unbits(int bits) {
        TreeSet<Integer> set = new TreeSet<>();
        for (int i = 0; i < 31; i++) {
            if ((bits >> i & 1) == 1) {
                set.add(i);
            }
        }
        return set;
    }

    int of(int word, int what) {
        if (noWord(word)) {
            return NONE;
        }
        Word w = all.words.get(word);
        TreeSet<Integer> knowing = new TreeSet<>();
        for (int p = 0; p < all.people.size(); p++) {
            if (all.people.get(p).tongue.contains(word)) {
                knowing.add(p);
            }
        }
        int[] told = {w.lasting, w.unsaid, w.lapsed ? 1 : 0, w.said, bits(w.kin), law("keep", word, 0), bits(knowing)};
        return what < 0 || what > 6 ? NONE : told[what];
    }

    int who(int person, int what) {
        if (noPerson(person)) {
            return NONE;
        }
        Person p = all.people.get(person);
        return what == 0 ? p.at : what == 1 ? bits(p.tongue) : what == 2 ? p.breath : NONE;
    }

    int asks(int word, int place, boolean tire) {
        return noWord(word) || noPlace(place) ? NONE : law(tire ? "tire" : "hear", word, place);
    }

    int book(int i, int what) {
        return i < 0 || i >= all.book.size() || what < 0 || what > 3 ? NONE - 1 : all.book.get(i)[what];
    }

    private TreeSet<Integer> lapsed() {
        TreeSet<Integer> set = new TreeSet<>();
        for (int w = 0; w < all.words.size(); w++) {
            if (all.words.get(w).lapsed) {
                set.add(w);
            }
        }
        return set;
    }

    private TreeSet<Integer> living() {
        TreeSet<Integer> set = new TreeSet<>();
        for (int w = 0; w < all.words.size(); w++) {
            set.add(w);
        }
        set.removeAll(lapsed());
        return set;
    }

    private boolean can(int meaning, TreeSet<Integer> words) {
        for (List<Integer> wording : all.meanings.get(meaning)) {
            if (words.containsAll(wording)) {
                return true;
            }
        }
        return false;
    }

    private TreeSet<Integer> sayable(TreeSet<Integer> words) {
        TreeSet<Integer> set = new TreeSet<>();
        for (int m = 0; m < all.meanings.size(); m++) {
            if (can(m, words)) {
                set.add(m);
            }
        }
        return set;
    }

    int look(int what) {
        switch (what) {
            case 0: return all.words.size();
            case 1: return all.people.size();
            case 2: return all.day;
            case 3: return all.chat;
            case 4: return bits(lapsed());
            case 5: return all.book.size();
            case 6: return all.draws;
            case 7: return all.meanings.size();
            case 8: return all.law.size();
            case 9: return all.walks.size();
            case 10: return all.needs.size();
            case 11: return all.talk.size();
            case 12: return before.size();
            case 13: return bits(sayable(living()));
            default: return NONE;
        }
    }

    // In thought.

    int goes(int n, int what) {
        if (n < 1 || n > 400 || what < 0 || what > 2) {
            return NONE - 1;
        }
        All was = all;
        all = was.copy();
        all.chat = 0;
        int first = NONE;
        int firstDay = NONE;
        for (int i = 0; i < n; i++) {
            int gone = day()[0];
            if (gone != NONE && first == NONE) {
                first = gone;
                firstDay = all.day - 1;
            }
        }
        int many = lapsed().size();
        all = was;
        return what == 0 ? many : what == 1 ? first : firstDay;
    }

    int misses(int what) {
        if (what < 0 || what > 1) {
            return NONE;
        }
        All was = all;
        int worth = 0;
        int first = NONE;
        // Each NEED by its own days in thought.
        for (int i = 0; i < was.needs.size(); i++) {
            int[] need = was.needs.get(i);
            if (need[1] < was.day) {
                continue;
            }
            all = was.copy();
            all.chat = 0;
            while (all.day <= need[1]) {
                day();
            }
            if (can(need[0], living())) {
                worth += need[2];
            } else if (first == NONE || need[1] < was.needs.get(first)[1]) {
                first = i;
            }
        }
        all = was;
        return what == 0 ? first : worth;
    }

    private int longOf(Iterable<Integer> words) {
        int sum = 0;
        for (int w : words) {
            sum += all.words.get(w).lasting;
        }
        return sum;
    }

    int wording(int meaning, int what) {
        if (meaning < 0 || meaning >= all.meanings.size() || what < 0 || what > 1) {
            return NONE;
        }
        int least = NONE;
        int number = NONE;
        for (int i = all.meanings.get(meaning).size() - 1; i >= 0; i--) {
            List<Integer> wording = all.meanings.get(meaning).get(i);
            if (living().containsAll(wording) && (least == NONE || longOf(wording) <= least)) {
                least = longOf(wording);
                number = i;
            }
        }
        return what == 0 ? least : number;
    }

    int go(int what) {
        if (what < 0 || what > 3) {
            return NONE;
        }
        int best = NONE;
        int bestSize = NONE;
        TreeSet<Integer> living = living();
        TreeSet<Integer> saidNow = sayable(living);
        for (int bits = 0; bits < 1 << all.words.size(); bits++) {
            TreeSet<Integer> set = unbits(bits);
            if (what < 2 && living.containsAll(set) && set.size() > bestSize) {
                TreeSet<Integer> left = new TreeSet<>(living);
                left.removeAll(set);
                if (sayable(left).containsAll(saidNow)) {
                    best = bits;
                    bestSize = set.size();
                }
            }
            if (what >= 2 && lapsed().containsAll(set) && (bestSize == NONE || set.size() < bestSize)) {
                TreeSet<Integer> more = new TreeSet<>(living);
                more.addAll(set);
                if (sayable(more).size() == all.meanings.size()) {
                    best = bits;
                    bestSize = set.size();
                }
            }
        }
        return what % 2 == 0 ? bestSize : best;
    }

    private TreeSet<Integer> together(TreeSet<Integer> people) {
        TreeSet<Integer> words = new TreeSet<>();
        for (int p : people) {
            words.addAll(all.people.get(p).tongue);
        }
        return words;
    }

    int keepers(int what) {
        if (what < 0 || what > 2) {
            return NONE;
        }
        if (what == 2) {
            int dearest = NONE;
            for (int p = all.people.size() - 1; p >= 0; p--) {
                dearest = dearest == NONE || costs(p) >= costs(dearest) ? p : dearest;
            }
            return dearest;
        }
        int every = (1 << all.people.size()) - 1;
        int best = every;
        for (int bits = every; bits >= 0; bits--) {
            if (together(unbits(bits)).equals(together(unbits(every)))
                    && unbits(bits).size() <= unbits(best).size()) {
                best = bits;
            }
        }
        return what == 0 ? unbits(best).size() : best;
    }

    int costs(int person) {
        if (noPerson(person)) {
            return NONE;
        }
        TreeSet<Integer> alone = new TreeSet<>(all.people.get(person).tongue);
        for (int p = 0; p < all.people.size(); p++) {
            if (p != person) {
                alone.removeAll(all.people.get(p).tongue);
            }
        }
        return alone.size();
    }

    private int bestMiles;
    private List<Integer> bestOrder;

    private void orders(int from, int miles, List<Integer> order, TreeSet<Integer> left) {
        if (left.isEmpty() && (bestOrder == null || miles < bestMiles)) {
            bestMiles = miles;
            bestOrder = new ArrayList<>(order);
        }
        for (int place : left) {
            TreeSet<Integer> rest = new TreeSet<>(left);
            rest.remove(place);
            order.add(place);
            orders(place, miles + all.miles[from][place], order, rest);
            order.remove(order.size() - 1);
        }
    }

    int round(int person, int places, int what) {
        if (noPerson(person) || places < 0 || places > 1023 || unbits(places).size() > 6) {
            return NONE;
        }
        bestOrder = null;
        orders(all.people.get(person).at, 0, new ArrayList<>(), unbits(places));
        if (what == 0) {
            return bestMiles;
        }
        return what < 10 || what - 10 >= bestOrder.size() ? NONE : bestOrder.get(what - 10);
    }

    int quarrel(int a, int b, int n, int what) {
        if (noPerson(a) || noPerson(b) || a == b || n < 1 || n > 6 || what < 0 || what > 2) {
            return NONE;
        }
        TreeSet<Integer> both = new TreeSet<>(all.people.get(a).tongue);
        both.retainAll(all.people.get(b).tongue);
        if (what == 0) {
            return both.size();
        }
        int most = NONE;
        int best = NONE;
        for (int bits = 0; bits < 1 << all.words.size(); bits++) {
            TreeSet<Integer> set = unbits(bits);
            if (set.size() == n && both.containsAll(set)) {
                int sum = 0;
                for (int w : set) {
                    sum += all.words.get(w).unsaid;
                }
                if (sum > most) {
                    most = sum;
                    best = bits;
                }
            }
        }
        return what == 1 ? most : best;
    }

    int talk(int word, int place) {
        if (word == NONE) {
            all.talk.clear();
            return 0;
        }
        if (place != NONE && noPlace(place) || noWord(word) || all.talk.size() == 10) {
            return NONE;
        }
        all.talk.add(new int[] {word, place});
        return all.talk.size();
    }

    int spoke(boolean set) {
        TreeSet<Integer> who = new TreeSet<>();
        for (int p = 0; p < all.people.size(); p++) {
            boolean can = true;
            for (int[] told : all.talk) {
                can &= all.people.get(p).tongue.contains(told[0]);
                can &= told[1] == NONE || all.people.get(p).at == told[1];
            }
            if (can) {
                who.add(p);
            }
        }
        if (set) {
            return bits(who);
        }
        int best = NONE;
        int least = 1000;
        for (int w = 0; w < all.words.size() && who.size() > 1; w++) {
            int have = 0;
            int lack = 0;
            for (int p : who) {
                if (all.people.get(p).tongue.contains(w)) {
                    have++;
                } else {
                    lack++;
                }
            }
            if (Math.max(have, lack) < least) {
                least = Math.max(have, lack);
                best = w;
            }
        }
        return best;
    }

    int grasps(int a, int b) {
        if (noPerson(a) || noPerson(b)) {
            return NONE;
        }
        TreeSet<Integer> both = new TreeSet<>(all.people.get(a).tongue);
        both.retainAll(all.people.get(b).tongue);
        return sayable(both).size();
    }

    int circle(int person) {
        if (noPerson(person)) {
            return NONE;
        }
        TreeSet<Integer> circle = new TreeSet<>();
        List<Integer> ask = new ArrayList<>();
        ask.add(person);
        while (!ask.isEmpty()) {
            int one = ask.remove(0);
            if (circle.add(one)) {
                for (int p = 0; p < all.people.size(); p++) {
                    if (grasps(one, p) > 0) {
                        ask.add(p);
                    }
                }
            }
        }
        return bits(circle);
    }

    int odds(int n, int k) {
        if (n < 1 || n > 60 || k < 0 || k > 9) {
            return NONE;
        }
        long left = 1000000;
        for (int day = 0; day < n; day++) {
            for (int p = 0; p < k; p++) {
                left = Math.floorDiv(left * (1000 - all.chat), 1000L);
            }
        }
        return (int) (1000000 - left);
    }

    int school(int person, int what) {
        if (noPerson(person) || what < 0 || what > 1) {
            return NONE;
        }
        TreeSet<Integer> needed = sayable(living());
        int best = NONE;
        for (int bits = (1 << all.words.size()) - 1; bits >= 0; bits--) {
            TreeSet<Integer> set = unbits(bits);
            if (!living().containsAll(set) || best != NONE && set.size() > unbits(best).size()) {
                continue;
            }
            TreeSet<Integer> has = new TreeSet<>(all.people.get(person).tongue);
            boolean isNew = true;
            for (int w : set) {
                isNew &= has.add(w);
            }
            if (isNew && sayable(has).containsAll(needed)) {
                best = bits;
            }
        }
        return what == 0 ? unbits(best).size() : best;
    }

    int verse(int what) {
        if (what < 0 || what > 1) {
            return NONE;
        }
        int best = 0;
        for (int bits = (1 << all.words.size()) - 1; bits >= 0; bits--) {
            TreeSet<Integer> set = unbits(bits);
            boolean can = living().containsAll(set) && longOf(set) >= longOf(unbits(best));
            for (int a : set) {
                for (int b : set) {
                    can = can && !all.words.get(a).kin.contains(b);
                }
            }
            best = can ? bits : best;
        }
        return what == 0 ? longOf(unbits(best)) : best;
    }

    int boast(int person, int what) {
        if (noPerson(person) || what < 0 || what > 1) {
            return NONE;
        }
        int most = NONE;
        int meaning = NONE;
        for (int m = 0; m < all.meanings.size(); m++) {
            for (List<Integer> wording : all.meanings.get(m)) {
                if (all.people.get(person).tongue.containsAll(wording) && longOf(wording) > most) {
                    most = longOf(wording);
                    meaning = m;
                }
            }
        }
        return what == 0 ? most : meaning;
    }

    int crowd(int what) {
        int place = 0;
        int most = 0;
        TreeSet<Integer> words = new TreeSet<>();
        for (int i = 9; i >= 0; i--) {
            int here = 0;
            TreeSet<Integer> common = null;
            for (Person p : all.people) {
                if (p.at == i) {
                    here++;
                    if (common == null) {
                        common = new TreeSet<>(p.tongue);
                    }
                    common.retainAll(p.tongue);
                }
            }
            if (here >= most) {
                most = here;
                place = i;
                words = common == null ? new TreeSet<>() : common;
            }
        }
        return what == 0 ? place : what == 1 ? most : what == 2 ? words.size() : NONE;
    }

    int silence(int what) {
        for (int w : living()) {
            for (int left = 0; left < all.words.get(w).unsaid % 8; left++) {
                int sum = left;
                for (int other : living()) {
                    sum ^= other == w ? 0 : all.words.get(other).unsaid % 8;
                }
                if (sum == 0) {
                    return what == 0 ? w : what == 1 ? left : NONE;
                }
            }
        }
        return NONE;
    }

    boolean undo() {
        if (before.isEmpty()) {
            return false;
        }
        All was = before.remove(before.size() - 1);
        was.chat = all.chat;
        was.meanings = all.meanings;
        was.law = all.law;
        was.walks = all.walks;
        was.needs = all.needs;
        was.talk = all.talk;
        all = was;
        return true;
    }

    boolean image(boolean taken) {
        if (taken) {
            image = all.copy();
            return true;
        }
        if (image == null) {
            return false;
        }
        all = image.copy();
        before.clear();
        return true;
    }
}
