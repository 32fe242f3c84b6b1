/** Terms 2: the TEXTS, their bounds, their FAULTS, and what THE LAW tells. */
final class EdgesOfTexts {
    static void tell(Edges edges) {
        edges.in("Terms 2");
        edges.of("TEXTS (empty at first)", EdgesOfTexts::atFirst);
        tellMeanings(edges);
        tellLaw(edges);
        edges.of("2 WALKS = {on DAY PERSON (goes PLACE | says WORD | rests) ;}", EdgesOfTexts::walks);
        edges.of("(DAY 0 .. 999; 16 lines at most.)", EdgesOfTexts::walksBounds);
        edges.of("3 NEEDS = {need MEANING by DAY worth N ;}", EdgesOfTexts::needs);
        edges.of("(DAY 0 .. 999, worth 1 .. 99; 12 at most.)", EdgesOfTexts::needsBounds);
        tellTokens(edges);
        tellFaults(edges);
        tellFacts(edges);
    }

    private static void tellMeanings(Edges edges) {
        edges.of("0 MEANINGS = {means WORD {WORD} {or WORD {WORD}} ;}", EdgesOfTexts::meanings);
        edges.of("(MEANINGS 0 .. 9 as told: 10 at most", EdgesOfTexts::meaningsMost);
        edges.of("6 wordings of each at most", EdgesOfTexts::wordingsMost);
        edges.of("6 WORDS of each at most", EdgesOfTexts::wordsMost);
        edges.of("a WORD may be twice", EdgesOfTexts::twice);
        edges.of("Told anew NEEDS are empty", EdgesOfTexts::toldAnew);
    }

    private static void tellLaw(Edges edges) {
        edges.of("1 THE LAW = {(keep | hear | tire) E [when B] ;}", EdgesOfTexts::law);
        edges.of("B = A {or A}", EdgesOfTexts::either);
        edges.of("A = C {and C}", EdgesOfTexts::both);
        edges.of("C = E (< | = | >) E | not C | ( B )", EdgesOfTexts::condition);
        edges.of("E = T {(+ | -) T}", EdgesOfTexts::sum);
        edges.of("T = U {* U | / NUMBER}", EdgesOfTexts::product);
        edges.of("U = NUMBER | word | long | unsaid | said | kin | knows | at | day", EdgesOfTexts::unit);
    }

    private static void tellTokens(Edges edges) {
        edges.of("TOKENS: letters as many as stand together are KEYWORDS (those told here for that text) or none", EdgesOfTexts::letters);
        edges.of("digits as many as stand together NUMBERS of 1 to 4 digits or none", EdgesOfTexts::digits);
        edges.of("; + - * / ( ) < = >", EdgesOfTexts::signs);
        edges.of("Blanks (32, 10) between", EdgesOfTexts::blanks);
        edges.of("Ints, which wrap", EdgesOfTexts::wrap);
        edges.of("/ goes towards 0", EdgesOfTexts::towardsZero);
    }

    private static void tellFaults(Edges edges) {
        edges.of("FAULTS, the first by its place", EdgesOfTexts::firstByPlace);
        edges.of("at one place the least", EdgesOfTexts::leastAtOnePlace);
        edges.of("1 what can't stand there", EdgesOfTexts::cannotStand);
        edges.of("(the end: the text's length)", EdgesOfTexts::atTheEnd);
        edges.of("2 (at the NUMBER) a part by 0", EdgesOfTexts::partByZero);
        edges.of("one beyond its bounds", EdgesOfTexts::beyondBounds);
        edges.of("a WORD, a PERSON, a MEANING that there is not", EdgesOfTexts::thereIsNot);
        edges.of("3 (at its KEYWORD) the 11th MEANING", EdgesOfTexts::eleventhMeaning);
        edges.of("the 7th wording (at its or)", EdgesOfTexts::seventhWording);
        edges.of("the 17th line of THE LAW", EdgesOfTexts::seventeenthLaw);
        edges.of("the 17th line of THE LAW, of WALKS", EdgesOfTexts::seventeenthWalk);
        edges.of("the 13th NEED", EdgesOfTexts::thirteenthNeed);
        edges.of("(at the NUMBER) the 7th WORD of a wording", EdgesOfTexts::seventhWord);
        edges.of("(at it) the 9th ( or not that is open", EdgesOfTexts::ninthOpen);
    }

    private static void tellFacts(Edges edges) {
        edges.of("What THE LAW tells for a word: E of the first line with that word whose B is so, or that has none", EdgesOfTexts::firstLine);
        edges.of("(none: keep 365, hear 2, tire: long)", EdgesOfTexts::noLine);
        edges.of("keep held to 1 .. 9999", EdgesOfTexts::keepHeld);
        edges.of("hear to 0 .. 9", EdgesOfTexts::hearHeld);
        edges.of("tire to 0 .. 99", EdgesOfTexts::tireHeld);
        edges.of("of a WORD: word: its number", EdgesOfTexts::factWord);
        edges.of("long: LONG; unsaid; said", EdgesOfTexts::factLongUnsaidSaid);
        edges.of("kin: how many WORDS are KIN to it that are not LAPSED", EdgesOfTexts::factKin);
        edges.of("knows: how many PEOPLE have it in their TONGUE", EdgesOfTexts::factKnows);
        edges.of("at: PLACE of who says it (keep: 0)", EdgesOfTexts::factAt);
        edges.of("day: DAY", EdgesOfTexts::factDay);
    }

    /** With 14 WORDS (LONG 1 to 14), 3 PEOPLE (at 0, 1, 2) and 2 MEANINGS. */
    private static UnsaidWords world() {
        UnsaidWords x = Due.made(new int[] {1, 2, 3, 4, 5, 6, 7, 8, 9, 10, 11, 12, 13, 14}, 0, 1, 2);
        Due.tell(x, 0, "means 0;means 1;");
        return x;
    }

    /** The text has no FAULT, and so many lines. */
    private static void good(Due due, int k, String text, int lines) {
        UnsaidWords x = world();
        due.is("text(" + k + ") of '" + text + "'", Due.tell(x, k, text), lines);
        due.is("fault(0) of '" + text + "'", x.fault(0), 0);
        due.is("fault(1) of '" + text + "'", x.fault(1), -1);
        due.is("lines of '" + text + "'", x.look(7 + k), lines);
    }

    /** The text has that FAULT at that place, and nothing is told. */
    private static void fault(Due due, int k, String text, int what, int place) {
        UnsaidWords x = world();
        int lines = x.look(7 + k);
        due.is("text(" + k + ") of '" + text + "'", Due.tell(x, k, text), -1);
        due.is("fault(0) of '" + text + "'", x.fault(0), what);
        due.is("fault(1) of '" + text + "'", x.fault(1), place);
        due.is("lines as they were behind '" + text + "'", x.look(7 + k), lines);
    }

    private static void atFirst(Due due) {
        UnsaidWords x = Due.made(new int[] {7}, 0);
        for (int what = 7; what <= 10; what++) {
            due.is("look(" + what + ")", x.look(what), 0);
        }
        due.is("no MEANING can be said", x.look(13), 0);
        due.is("keep", x.of(0, 5), 365);
        due.is("hear", x.asks(0, 0, false), 2);
        due.is("tire", x.asks(0, 0, true), 7);
        due.is("no NEED", x.misses(1), 0);
        x.days(60);
        due.is("nobody walks", x.look(5), 0);
    }

    private static void meanings(Due due) {
        good(due, 0, "", 0);
        good(due, 0, "means 0;", 1);
        good(due, 0, "means 0 1 or 2 or 3 4 5;means 1;", 2);
        fault(due, 0, "means;", 1, 5);
        fault(due, 0, "means or 0;", 1, 6);
        fault(due, 0, "means 0 or;", 1, 10);
        fault(due, 0, "means 0 or or 0;", 1, 11);
        fault(due, 0, "means 0", 1, 7);
        fault(due, 0, "means 0;;", 1, 8);
        fault(due, 0, ";", 1, 0);
        UnsaidWords x = world();
        Due.tell(x, 0, "means 13 or 4 5 or 3;");
        due.is("the shortest", x.wording(0, 1), 2);
        due.is("its LONG", x.wording(0, 0), 4);
        Due.lapse(x, 8);
        due.is("the shortest", x.wording(0, 1), 1);
        due.is("its LONG", x.wording(0, 0), 11);
    }

    private static void meaningsMost(Due due) {
        StringBuilder ten = new StringBuilder();
        for (int i = 0; i < 10; i++) {
            ten.append("means ").append(13 - i).append(';');
        }
        UnsaidWords x = world();
        due.is("ten", Due.tell(x, 0, ten.toString()), 10);
        due.is("look(7)", x.look(7), 10);
        due.is("all can be said", x.look(13), 1023);
        for (int i = 0; i < 10; i++) {
            due.is("as told: MEANING " + i, x.wording(i, 0), 14 - i);
        }
        due.is("MEANING 10", x.wording(10, 0), -1);
        due.is("eleven", Due.tell(x, 0, ten + "means 0;"), -1);
        due.is("look(7)", x.look(7), 10);
        due.is("as it was", x.wording(9, 0), 5);
    }

    private static void wordingsMost(Due due) {
        String six = "means 0 or 1 or 2 or 3 or 4 or 5";
        good(due, 0, six + ";", 1);
        good(due, 0, six + ";" + six + ";" + six + ";", 3);
        fault(due, 0, six + " or 6;", 3, 33);
        fault(due, 0, six + ";" + six + " or 6;", 3, 66);
        UnsaidWords x = world();
        Due.tell(x, 0, six + ";");
        for (int i = 0; i < 6; i++) {
            due.is("wording", x.wording(0, 1), i);
            Due.lapse(x, 1 << i);
        }
        due.is("no seventh", x.wording(0, 1), -1);
    }

    private static void wordsMost(Due due) {
        good(due, 0, "means 0 1 2 3 4 5;", 1);
        good(due, 0, "means 0 1 2 3 4 5 or 6 7 8 9 10 11;", 1);
        fault(due, 0, "means 0 1 2 3 4 5 6;", 3, 18);
        fault(due, 0, "means 0 or 0 1 2 3 4 5 6;", 3, 23);
        UnsaidWords x = world();
        Due.tell(x, 0, "means 0 1 2 3 4 5;");
        due.is("LONG of six", x.wording(0, 0), 21);
        Due.lapse(x, 32);
        due.is("the sixth is asked", x.wording(0, 0), -1);
    }

    private static void twice(Due due) {
        UnsaidWords x = world();
        due.is("text", Due.tell(x, 0, "means 6 6;means 6 6 6 6 6 6;means 0 6 0 or 1 6;"), 3);
        due.is("twice", x.wording(0, 0), 14);
        due.is("six times", x.wording(1, 0), 42);
        due.is("with another", x.wording(2, 0), 9);
        x.teach(0, 6);
        due.is("who has it has a wording", x.grasps(0, 0), 2);
    }

    private static void toldAnew(Due due) {
        UnsaidWords x = world();
        String needs = "need 0 by 5 worth 3;need 1 by 5 worth 4;";
        Due.tell(x, 3, needs);
        due.is("the worth", x.misses(1), 7);
        due.is("told anew as they are", Due.tell(x, 0, "means 0;means 1;"), 2);
        due.is("look(10)", x.look(10), 0);
        due.is("the worth", x.misses(1), 0);
        Due.tell(x, 3, needs);
        due.is("a FAULT", Due.tell(x, 0, "means 0;means"), -1);
        due.is("NEEDS stay", x.look(10), 2);
        for (int k = 1; k < 3; k++) {
            Due.tell(x, k, "");
            due.is("NEEDS stay behind TEXT " + k, x.look(10), 2);
        }
        due.is("none is told", Due.tell(x, 0, ""), 0);
        due.is("look(10)", x.look(10), 0);
    }

    private static void law(Due due) {
        good(due, 1, "", 0);
        good(due, 1, "keep 1;", 1);
        good(due, 1, "hear 1;tire 1 when 1=1;keep 1 when 1=1;keep 2;", 4);
        fault(due, 1, "keep;", 1, 4);
        fault(due, 1, "keep when 1=1;", 1, 5);
        fault(due, 1, "keep 1 when;", 1, 11);
        fault(due, 1, "keep 1 when 1;", 1, 13);
        fault(due, 1, "keep 1", 1, 6);
        fault(due, 1, "keep 1 hear 1;", 1, 7);
        fault(due, 1, "1;", 1, 0);
        fault(due, 1, "when 1=1;", 1, 0);
        fault(due, 1, "keep 1=1;", 1, 6);
        fault(due, 1, "keep 1;;", 1, 7);
    }

    /** tire of WORD 5 at PLACE 0 is 77 when that is so, else 88. */
    private static void when(Due due, String condition, boolean want) {
        UnsaidWords x = world();
        due.is("text of '" + condition + "'", Due.tell(x, 1, "tire 77 when " + condition + ";tire 88;"), 2);
        due.is("when " + condition, x.asks(5, 0, true), want ? 77 : 88);
    }

    private static void either(Due due) {
        when(due, "1=1", true);
        when(due, "1=2", false);
        when(due, "1=2 or 1=2", false);
        when(due, "1=2 or 1=1", true);
        when(due, "1=1 or 1=2", true);
        when(due, "1=2 or 1=2 or 1=2 or 1=2 or 1=1", true);
        when(due, "1=2" + " or 1=2".repeat(50), false);
        fault(due, 1, "keep 1 when or 1=1;", 1, 12);
        fault(due, 1, "keep 1 when 1=1 or;", 1, 18);
        fault(due, 1, "keep 1 when 1=1 or or 1=1;", 1, 19);
    }

    private static void both(Due due) {
        when(due, "1=1 and 1=1", true);
        when(due, "1=1 and 1=2", false);
        when(due, "1=2 and 1=1", false);
        when(due, "1=1 or 1=1 and 1=2", true);
        when(due, "1=2 and 1=1 or 1=1", true);
        when(due, "1=1 and 1=2 or 1=2 and 1=1", false);
        when(due, "1=1" + " and 1=1".repeat(40) + " and 1=2", false);
        fault(due, 1, "keep 1 when and 1=1;", 1, 12);
        fault(due, 1, "keep 1 when 1=1 and;", 1, 19);
    }

    private static void condition(Due due) {
        when(due, "5<5", false);
        when(due, "4<5", true);
        when(due, "5<4", false);
        when(due, "5=5", true);
        when(due, "5=4", false);
        when(due, "5>5", false);
        when(due, "5>4", true);
        when(due, "4>5", false);
        when(due, "not 5=5", false);
        when(due, "not not 5=5", true);
        when(due, "not 5=4 and 5=4", false);
        when(due, "not (5=4 and 5=4)", true);
        when(due, "(5=5 or 5=5) and 5=4", false);
        when(due, "not 4<5", false);
        when(due, "not 5<4", true);
        when(due, "not 5>4", false);
        when(due, "not 4>5", true);
        when(due, "not (not 4<5)", true);
        when(due, "4<5 and 5>4 and 5=5", true);
        when(due, "5=5 and 4<5", true);
        when(due, "5>5 or 4<5", true);
        fault(due, 1, "keep 1 when 5;", 1, 13);
        fault(due, 1, "keep 1 when 5<5<5;", 1, 15);
        fault(due, 1, "keep 1 when 5<;", 1, 14);
        fault(due, 1, "keep 1 when not;", 1, 15);
        fault(due, 1, "keep 1 when ();", 1, 13);
        fault(due, 1, "keep 1 when (5=5;", 1, 16);
        fault(due, 1, "keep 1 when 5=5);", 1, 15);
    }

    /** tire of WORD 5 at PLACE 0. */
    private static void tire(Due due, String sum, int want) {
        UnsaidWords x = world();
        due.is("text of '" + sum + "'", Due.tell(x, 1, "tire " + sum + ";"), 1);
        due.is("tire " + sum, x.asks(5, 0, true), want);
    }

    private static void sum(Due due) {
        tire(due, "7", 7);
        tire(due, "7+8", 15);
        tire(due, "20-7-8", 5);
        tire(due, "20-7+8", 21);
        tire(due, "1" + "+1".repeat(60), 61);
        fault(due, 1, "tire +7;", 1, 5);
        fault(due, 1, "tire -7;", 1, 5);
        fault(due, 1, "tire 7+;", 1, 7);
        fault(due, 1, "tire 7-;", 1, 7);
        fault(due, 1, "tire 7+-7;", 1, 7);
        fault(due, 1, "tire (7);", 1, 5);
    }

    private static void product(Due due) {
        tire(due, "2+3*4", 14);
        tire(due, "2*3+4", 10);
        tire(due, "20-2*3-4", 10);
        tire(due, "7/2*2", 6);
        tire(due, "99/7/2", 7);
        tire(due, "word*word/5*2", 10);
        fault(due, 1, "tire 7*;", 1, 7);
        fault(due, 1, "tire 7/;", 1, 7);
        fault(due, 1, "tire *7;", 1, 5);
        fault(due, 1, "tire 7/word;", 1, 7);
        fault(due, 1, "tire 7/word", 1, 7);
        fault(due, 1, "tire 7*/7;", 1, 7);
    }

    /** WORD 5: LONG 9, UNSAID 40, SAID 3, KIN 2, in four TONGUES, on DAY 7. */
    private static UnsaidWords facts() {
        UnsaidWords x = Due.made(new int[] {1, 1, 1, 1, 1, 9}, 0, 0, 0, 0);
        Due.teach(x, 32, 32, 32, 32);
        for (int p = 0; p < 3; p++) {
            x.say(p, 5);
        }
        x.days(7);
        x.kin(5, 1, true);
        x.kin(5, 3, true);
        x.set(2, 5, 40);
        return x;
    }

    private static void unit(Due due) {
        String[] names = {"word", "long", "unsaid", "said", "kin", "knows", "at", "day", "0", "63"};
        int[] want = {5, 9, 40, 3, 2, 4, 8, 7, 0, 63};
        UnsaidWords x = facts();
        for (int i = 0; i < names.length; i++) {
            due.is("text", Due.tell(x, 1, "tire " + names[i] + ";"), 1);
            due.is("tire " + names[i], x.asks(5, 8, true), want[i]);
        }
        for (String none : new String[] {"keep", "hear", "tire", "when", "not", "and", "or", "means", "on", "goes", "says", "rests",
            "need", "by", "worth", "lapsed", "unsai", "words", "ay", "k", "a"}) {
            fault(due, 1, "tire " + none + ";", 1, 5);
        }
    }

    private static void walks(Due due) {
        good(due, 2, "", 0);
        good(due, 2, "on 0 0 goes 0;on 0 0 says 0;on 0 0 rests;", 3);
        fault(due, 2, "on;", 1, 2);
        fault(due, 2, "on 0;", 1, 4);
        fault(due, 2, "on 0 0;", 1, 6);
        fault(due, 2, "on 0 0 goes;", 1, 11);
        fault(due, 2, "on 0 0 says;", 1, 11);
        fault(due, 2, "on 0 0 rests 0;", 1, 13);
        fault(due, 2, "on 0 0 goes 0 0;", 1, 14);
        fault(due, 2, "on 0 0 rests", 1, 12);
        fault(due, 2, "on 0 0 0;", 1, 7);
        fault(due, 2, "goes 0;", 1, 0);
        fault(due, 2, "on 0 0 rests;;", 1, 13);
    }

    private static void walksBounds(Due due) {
        good(due, 2, "on 0 0 rests;on 999 0 rests;", 2);
        fault(due, 2, "on 1000 0 rests;", 2, 3);
        String four = "on 0 0 rests;on 0 1 rests;on 0 0 rests;on 0 1 rests;";
        good(due, 2, four.repeat(4), 16);
        fault(due, 2, four.repeat(4) + "on 0 0 rests;", 3, 208);
        UnsaidWords x = Due.made(new int[] {}, 0);
        Due.tell(x, 2, "on 0 0 goes 4;on 999 0 goes 5;");
        x.days(1);
        due.is("on DAY 0", x.who(0, 0), 4);
        for (int i = 0; i < 16; i++) {
            x.days(60);
        }
        x.days(38);
        due.is("look(2)", x.look(2), 999);
        due.is("not yet", x.who(0, 0), 4);
        x.days(1);
        due.is("on DAY 999", x.who(0, 0), 5);
    }

    private static void needs(Due due) {
        good(due, 3, "", 0);
        good(due, 3, "need 0 by 0 worth 1;need 1 by 0 worth 1;", 2);
        fault(due, 3, "need;", 1, 4);
        fault(due, 3, "need 0;", 1, 6);
        fault(due, 3, "need 0 by;", 1, 9);
        fault(due, 3, "need 0 by 0;", 1, 11);
        fault(due, 3, "need 0 by 0 worth;", 1, 17);
        fault(due, 3, "need 0 by 0 worth 1", 1, 19);
        fault(due, 3, "need 0 worth 1 by 0;", 1, 7);
        fault(due, 3, "need 0 0 worth 1;", 1, 7);
        fault(due, 3, "need 0 by 0 1;", 1, 12);
        fault(due, 3, "need 0 by 0 worth 1 1;", 1, 20);
        fault(due, 3, "by 0;", 1, 0);
    }

    private static void needsBounds(Due due) {
        good(due, 3, "need 0 by 0 worth 1;need 0 by 999 worth 99;", 2);
        fault(due, 3, "need 0 by 1000 worth 1;", 2, 10);
        fault(due, 3, "need 0 by 0 worth 0;", 2, 18);
        fault(due, 3, "need 0 by 0 worth 100;", 2, 18);
        String four = "need 0 by 0 worth 1;need 1 by 0 worth 1;need 0 by 0 worth 1;need 1 by 0 worth 1;";
        good(due, 3, four.repeat(3), 12);
        fault(due, 3, four.repeat(3) + "need 0 by 0 worth 1;", 3, 240);
        UnsaidWords x = world();
        Due.tell(x, 1, "keep 9999;");
        Due.tell(x, 3, "need 0 by 0 worth 1;need 0 by 999 worth 99;");
        due.is("DAY 0 and DAY 999", x.misses(1), 100);
        Due.tell(x, 1, "keep 1000;");
        due.is("behind (c) of DAY 999", x.misses(0), 1);
        Due.tell(x, 1, "keep 1001;");
        due.is("a day later", x.misses(0), -1);
    }

    private static void letters(Due due) {
        good(due, 0, "means 0or 1;", 1);
        good(due, 0, "means0or1;", 1);
        fault(due, 0, "meansor 1;", 1, 0);
        fault(due, 0, "mean s 0;", 1, 0);
        fault(due, 0, "meanss 0;", 1, 0);
        fault(due, 0, "mea 0;", 1, 0);
        fault(due, 0, "Means 0;", 1, 0);
        fault(due, 0, "meansZ 0;", 1, 0);
        fault(due, 0, "means a 0;", 1, 6);
        fault(due, 0, "means 0 o r 0;", 1, 8);
        fault(due, 0, "keep 0;", 1, 0);
        fault(due, 0, "means 0 and 0;", 1, 8);
        fault(due, 1, "means 0;", 1, 0);
        fault(due, 1, "keep 1 when 1=1 by 1;", 1, 16);
        fault(due, 2, "need 0 by 0 worth 1;", 1, 0);
        fault(due, 2, "on 0 0 keep;", 1, 7);
        fault(due, 3, "on 0 0 rests;", 1, 0);
        fault(due, 3, "need 0 by 0 or 1;", 1, 12);
        good(due, 1, "keep1when not1=1or(2=2)and word<long;", 1);
        for (char letter = 'A'; letter <= 'Z'; letter++) {
            fault(due, 0, "means" + letter + " 0;", 1, 0);
            fault(due, 0, letter + "means 0;", 1, 0);
            fault(due, 0, "means" + (char) (letter + 32) + " 0;", 1, 0);
            fault(due, 0, (char) (letter + 32) + "means 0;", 1, 0);
        }
        for (char other : new char[] {'@', '[', '`', '{', '_', '\'', 127, 128, 192, 223, 224, 233, 255}) {
            fault(due, 0, "means" + other + " 0;", 1, 5);
        }
    }

    private static void digits(Due due) {
        good(due, 0, "means 0 00 000 0000;", 1);
        good(due, 0, "means 0013;", 1);
        fault(due, 0, "means 00000;", 1, 6);
        fault(due, 0, "means 00013;", 1, 6);
        fault(due, 0, "means 1 2 34567 1;", 1, 10);
        good(due, 1, "keep 9999;", 1);
        fault(due, 1, "keep 10000;", 1, 5);
        fault(due, 1, "keep 1/00000;", 1, 7);
        fault(due, 1, "keep 99999999999999999999;", 1, 5);
        fault(due, 2, "on 00000 0 rests;", 1, 3);
        fault(due, 3, "need 0 by 00001 worth 1;", 1, 10);
        UnsaidWords x = world();
        Due.tell(x, 0, "means 12;means 1 2;");
        due.is("together one NUMBER", x.wording(0, 0), 13);
        due.is("apart two", x.wording(1, 0), 5);
    }

    private static void signs(Due due) {
        good(due, 1, "tire 1+2-3*4/5 when (1<2)or 1=2 and 2>1;", 1);
        for (char sign = 33; sign < 256; sign++) {
            boolean isWord = sign >= 'a' && sign <= 'z' || sign >= 'A' && sign <= 'Z' || sign >= '0' && sign <= '9';
            if (isWord || sign == ';' || sign == '+' || sign == '-' || sign == '*' || sign == '/') {
                continue;
            }
            fault(due, 1, "tire 1" + sign + "2;", 1, 6);
            fault(due, 1, "tire 1;" + sign, 1, 7);
        }
        fault(due, 1, "keep 1 when 1<=2;", 1, 14);
        fault(due, 1, "keep 1 when 1==2;", 1, 14);
        fault(due, 1, "keep 1.;", 1, 6);
    }

    private static void blanks(Due due) {
        good(due, 0, "  means\n0\n \nor  1 ;\n", 1);
        good(due, 1, "keep 1 + 2 * 3 / 4 when ( 1 < 2 ) ;", 1);
        good(due, 0, " \n \n", 0);
        for (int sign = 0; sign < 33; sign++) {
            if (sign != 10 && sign != 32) {
                fault(due, 0, "means" + (char) sign + "0;", 1, 5);
                fault(due, 0, "means 0;" + (char) sign, 1, 8);
            }
        }
        fault(due, 0, "means" + (char) 160 + "0;", 1, 5);
        fault(due, 0, "me ans 0;", 1, 0);
        fault(due, 0, "means 1 4 or 1\n4 or\n", 1, 20);
    }

    private static void wrap(Due due) {
        when(due, "9999*9999*21>0", true);
        when(due, "9999*9999*22<0", true);
        when(due, "9999*9999*43<4173*1000", true);
        when(due, "9999*9999*21+9999*9999<0", true);
        when(due, "0-9999*9999*21-9999*9999>0", true);
        when(due, "8192*8192*32=0-8192*8192*32", true);
        when(due, "8192*8192*64=0", true);
        when(due, "8192*8192*32-1>0", true);
        when(due, "8192*8192*16*2/2<0", true);
    }

    private static void towardsZero(Due due) {
        tire(due, "7/2", 3);
        tire(due, "7/9999", 0);
        tire(due, "50+0*7/2", 50);
        when(due, "0-7/2=0-3", true);
        UnsaidWords x = facts();
        Due.tell(x, 1, "tire 50+at*0-7/2;");
        due.is("7/2 is taken from it", x.asks(5, 0, true), 47);
        when(due, "8192*8192*32/2=0-8192*8192*16", true);
        // 9999 * 9999 * 22 wraps to -2095407274.
        when(due, "9999*9999*22/1000=0-2095*1000-407", true);
        when(due, "9999*9999*22/9999/9999=0-20", true);
    }

    private static void firstByPlace(Due due) {
        fault(due, 0, "means 14 x", 2, 6);
        fault(due, 0, "means x 14", 1, 6);
        fault(due, 0, "means 0 1 2 3 4 5 6 14;", 3, 18);
        fault(due, 0, "means 0 1 2 3 14 5 6;", 2, 14);
        fault(due, 0, "means 0;".repeat(10) + "means 14", 3, 80);
        fault(due, 0, "means 0;".repeat(9) + "means 14;means 0;", 2, 78);
        fault(due, 1, "keep 1/0", 2, 7);
        fault(due, 1, "keep 1/0 when ((((((((((", 2, 7);
        fault(due, 1, "keep 1 when (((((((((1/0", 3, 20);
        fault(due, 2, "on 1000 9 x", 2, 3);
        fault(due, 2, "on 0 9 goes 10;", 2, 5);
        fault(due, 2, "on 0 0 goes 10 x", 2, 12);
        fault(due, 3, "need 2 by 1000 worth 100", 2, 5);
        fault(due, 3, "need 0 by 1000 worth 100", 2, 10);
        fault(due, 3, "need 0 by 0 worth 100", 2, 18);
    }

    private static void leastAtOnePlace(Due due) {
        fault(due, 0, "means 0 0 0 0 0 0 14;", 2, 18);
        fault(due, 0, "means 0 0 0 0 0 0 9999;", 2, 18);
        fault(due, 0, "means 0 0 0 0 0 0 00000;", 1, 18);
        fault(due, 0, "means 0 0 0 0 0 0 0;", 3, 18);
        fault(due, 1, "keep 1 when ((((((((1=1(1=1))))))))));", 1, 23);
        fault(due, 1, "keep 1 when ((((((((1=(1)", 1, 22);
        fault(due, 1, "keep 1 when ((((((((1=1 not", 1, 24);
        fault(due, 1, "keep 1 when ((((((((1=1 and (", 3, 28);
        fault(due, 0, "means 0;".repeat(9) + "means 0 means 0;", 1, 80);
        fault(due, 1, "keep 1;".repeat(15) + "keep 1 keep 1;", 1, 112);
        fault(due, 2, "on 0 0 rests;".repeat(15) + "on 0 0 rests on 0 0 rests;", 1, 208);
        fault(due, 3, "need 0 by 0 worth 1;".repeat(11) + "need 0 by 0 worth 1 need", 1, 240);
        fault(due, 1, "keep 1/10000;", 1, 7);
        fault(due, 0, "means 10000;", 1, 6);
        fault(due, 2, "on 10000 0 rests;", 1, 3);
        fault(due, 0, "means 0;".repeat(10) + "or", 1, 80);
        fault(due, 2, "on 0 0 rests;".repeat(16) + "0", 1, 208);
        fault(due, 3, "need 0 by 0 worth 1;".repeat(12) + ";", 1, 240);
    }

    private static void cannotStand(Due due) {
        fault(due, 0, "x", 1, 0);
        fault(due, 0, "0", 1, 0);
        fault(due, 0, "means ;", 1, 6);
        fault(due, 0, "means 0 + 1;", 1, 8);
        fault(due, 0, "means 0;0;", 1, 8);
        fault(due, 1, "keep 1 2;", 1, 7);
        fault(due, 1, "keep 1 when when 1=1;", 1, 12);
        fault(due, 1, "keep 1 when 1=1 2=2;", 1, 16);
        fault(due, 2, "on goes 1;", 1, 3);
        fault(due, 2, "on 1 goes 1;", 1, 5);
        fault(due, 3, "need 0 0;", 1, 7);
        fault(due, 3, "need 0 by by 0;", 1, 10);
    }

    private static void atTheEnd(Due due) {
        fault(due, 0, "means", 1, 5);
        fault(due, 0, "means   ", 1, 8);
        fault(due, 0, "means 0\n", 1, 8);
        fault(due, 1, "keep 1 when (1=1", 1, 16);
        fault(due, 1, "keep 1 +", 1, 8);
        fault(due, 2, "on 0 0 goes", 1, 11);
        fault(due, 3, "need 0 by 0 worth 1  ", 1, 21);
        String long0 = "means 0;" + " ".repeat(386) + "means";
        fault(due, 0, long0, 1, 399);
        fault(due, 0, long0 + " ", 1, 400);
        fault(due, 0, long0 + "x", 1, 394);
    }

    private static void partByZero(Due due) {
        fault(due, 1, "keep 1/0;", 2, 7);
        fault(due, 1, "keep 1/00;", 2, 7);
        fault(due, 1, "keep 1 / 0000;", 2, 9);
        fault(due, 1, "keep 0/0;", 2, 7);
        fault(due, 1, "keep 1 when 1/0=1;", 2, 14);
        fault(due, 1, "keep 1 when 1=1/2/0;", 2, 18);
        good(due, 1, "keep 1/1;", 1);
        good(due, 1, "keep 0/1*0;", 1);
        good(due, 1, "keep 1/9999;", 1);
    }

    private static void beyondBounds(Due due) {
        good(due, 2, "on 999 0 goes 9;", 1);
        fault(due, 2, "on 1000 0 goes 9;", 2, 3);
        fault(due, 2, "on 9999 0 goes 9;", 2, 3);
        fault(due, 2, "on 0 0 goes 10;", 2, 12);
        fault(due, 2, "on 0 0 goes 9999;", 2, 12);
        good(due, 3, "need 0 by 999 worth 99;", 1);
        fault(due, 3, "need 0 by 1000 worth 99;", 2, 10);
        fault(due, 3, "need 0 by 999 worth 100;", 2, 20);
        fault(due, 3, "need 0 by 999 worth 0;", 2, 20);
    }

    private static void thereIsNot(Due due) {
        good(due, 0, "means 13;", 1);
        fault(due, 0, "means 14;", 2, 6);
        fault(due, 0, "means 0 or 0 14;", 2, 13);
        good(due, 2, "on 0 2 says 13;", 1);
        fault(due, 2, "on 0 3 says 13;", 2, 5);
        fault(due, 2, "on 0 2 says 14;", 2, 12);
        good(due, 3, "need 1 by 0 worth 1;", 1);
        fault(due, 3, "need 2 by 0 worth 1;", 2, 5);
        for (int k = 0; k < 4; k += k == 0 ? 2 : 1) {
            UnsaidWords x = new UnsaidWords();
            due.is("text", Due.tell(x, k, new String[] {"means 0;", "", "on 0 0 rests;", "need 0 by 0 worth 1;"}[k]), -1);
            due.is("fault(0) of nothing", x.fault(0), 2);
            due.is("fault(1) of nothing", x.fault(1), k == 0 ? 6 : 5);
        }
        UnsaidWords x = Due.made(new int[] {1}, 0);
        due.is("no WORD to be said", Due.tell(x, 2, "on 0 0 says 1;"), -1);
        due.is("fault(1)", x.fault(1), 12);
        x.word(1);
        due.is("there is one then", Due.tell(x, 2, "on 0 0 says 1;"), 1);
        Due.lapse(x, 2);
        due.is("a LAPSED one is one", Due.tell(x, 0, "means 1;"), 1);
    }

    private static void eleventhMeaning(Due due) {
        good(due, 0, "means 0;".repeat(10), 10);
        fault(due, 0, "means 0;".repeat(11), 3, 80);
        fault(due, 0, "means 0;".repeat(10) + "  means", 3, 82);
        fault(due, 0, "means 0;".repeat(10) + "x", 1, 80);
    }

    private static void seventhWording(Due due) {
        String six = "means 0 or 1 or 2 or 3 or 4 or 5";
        good(due, 0, six + ";", 1);
        fault(due, 0, six + " or 6;", 3, 33);
        fault(due, 0, six + "   or", 3, 35);
        fault(due, 0, six + " and", 1, 33);
    }

    private static void seventeenthLaw(Due due) {
        good(due, 1, "keep 1;".repeat(16), 16);
        fault(due, 1, "keep 1;".repeat(17), 3, 112);
        fault(due, 1, "keep 1;hear 1;tire 1;keep 1;".repeat(4) + " hear", 3, 113);
        fault(due, 1, "keep 1;".repeat(16) + "tire", 3, 112);
        fault(due, 1, "keep 1;".repeat(16) + "when", 1, 112);
    }

    private static void seventeenthWalk(Due due) {
        good(due, 2, "on 0 0 rests;".repeat(16), 16);
        fault(due, 2, "on 0 0 rests;".repeat(17), 3, 208);
        fault(due, 2, "on 0 0 rests;".repeat(16) + "\non", 3, 209);
        fault(due, 2, "on 0 0 rests;".repeat(16) + "goes", 1, 208);
    }

    private static void thirteenthNeed(Due due) {
        good(due, 3, "need 0 by 0 worth 1;".repeat(12), 12);
        fault(due, 3, "need 0 by 0 worth 1;".repeat(13), 3, 240);
        fault(due, 3, "need 0 by 0 worth 1;".repeat(12) + " need", 3, 241);
        fault(due, 3, "need 0 by 0 worth 1;".repeat(12) + "by", 1, 240);
    }

    private static void seventhWord(Due due) {
        good(due, 0, "means 0 1 2 3 4 5;", 1);
        fault(due, 0, "means 0 1 2 3 4 5 6;", 3, 18);
        fault(due, 0, "means 0 0 0 0 0 0 0;", 3, 18);
        fault(due, 0, "means 0 1 2 3 4 5 or 0 1 2 3 4 5 6 7;", 3, 33);
        fault(due, 0, "means 0 1 2 3 4 5   13", 3, 20);
    }

    private static void ninthOpen(Due due) {
        good(due, 1, "keep 1 when ((((((((1=1))))))));", 1);
        good(due, 1, "keep 1 when not not not not not not not not 1=1;", 1);
        good(due, 1, "keep 1 when not (not (not (not (1=1))));", 1);
        fault(due, 1, "keep 1 when (((((((((1=1)))))))));", 3, 20);
        fault(due, 1, "keep 1 when not not not not not not not not not 1=1;", 3, 44);
        fault(due, 1, "keep 1 when not (not (not (not (not 1=1))));", 3, 32);
        fault(due, 1, "keep 1 when not (not (not (not ((1=1)))));", 3, 32);
        good(due, 1, "keep 1 when ((((((((1=1)))))))) and ((((((((1=1))))))));", 1);
        good(due, 1, "keep 1 when (((((((not 1=1 and not 1=1 or (1=1))))))));", 1);
        good(due, 1, "keep 1 when not 1=1" + " and not 1=1".repeat(20) + ";", 1);
        good(due, 1, "keep 1 when (((((((not 1=1)))))));" + "keep 1 when (((((((not 1=1)))))));", 2);
        fault(due, 1, "keep 1 when (((((((not (1=1))))))));", 3, 23);
    }

    private static void firstLine(Due due) {
        UnsaidWords x = world();
        Due.tell(x, 1, "hear 5;tire 11 when word=0;tire 12 when word<3;tire 13;tire 14 when word=4;keep 20;keep 21;");
        int[] tire = {11, 12, 12, 13, 13};
        for (int w = 0; w < tire.length; w++) {
            due.is("tire of WORD " + w, x.asks(w, 0, true), tire[w]);
            due.is("hear of WORD " + w, x.asks(w, 0, false), 5);
            due.is("keep of WORD " + w, x.of(w, 5), 20);
        }
    }

    private static void noLine(Due due) {
        UnsaidWords x = world();
        for (String law : new String[] {"", "keep 5 when 1=2;hear 5 when 1=2;tire 5 when 1=2;"}) {
            Due.tell(x, 1, law);
            for (int w = 0; w < 14; w += 13) {
                due.is("keep", x.of(w, 5), 365);
                due.is("hear", x.asks(w, 3, false), 2);
                due.is("tire", x.asks(w, 3, true), w + 1);
            }
        }
        Due.tell(x, 1, "hear 7;");
        due.is("keep without a line of its own", x.of(13, 5), 365);
        due.is("tire without a line of its own", x.asks(13, 0, true), 14);
        UnsaidWords y = Due.made(new int[] {1}, 0);
        y.set(2, 0, 363);
        due.is("day 364", y.days(1), 0);
        due.is("day 365", y.days(1), 1);
    }

    private static void keepHeld(Due due) {
        String[] sums = {"0", "1", "2", "0-1", "0-9999*9999", "9998", "9999", "9999+1", "9999*9999", "8192*8192*32", "8192*8192*32-1"};
        int[] want = {1, 1, 2, 1, 1, 9998, 9999, 9999, 9999, 1, 9999};
        UnsaidWords x = world();
        for (int i = 0; i < sums.length; i++) {
            Due.tell(x, 1, "keep " + sums[i] + ";");
            due.is("keep " + sums[i], x.of(3, 5), want[i]);
        }
    }

    private static void hearHeld(Due due) {
        String[] sums = {"0", "1", "0-1", "8", "9", "10", "9999", "8192*8192*32"};
        int[] want = {0, 1, 0, 8, 9, 9, 9, 0};
        UnsaidWords x = world();
        for (int i = 0; i < sums.length; i++) {
            Due.tell(x, 1, "hear " + sums[i] + ";");
            due.is("hear " + sums[i], x.asks(3, 0, false), want[i]);
        }
    }

    private static void tireHeld(Due due) {
        String[] sums = {"0", "1", "0-1", "98", "99", "100", "9999", "8192*8192*32"};
        int[] want = {0, 1, 0, 98, 99, 99, 99, 0};
        UnsaidWords x = world();
        for (int i = 0; i < sums.length; i++) {
            Due.tell(x, 1, "tire " + sums[i] + ";");
            due.is("tire " + sums[i], x.asks(3, 0, true), want[i]);
        }
    }

    private static void factWord(Due due) {
        UnsaidWords x = world();
        Due.tell(x, 1, "tire word;keep word+1;");
        for (int w = 0; w < 14; w++) {
            due.is("tire", x.asks(w, 9, true), w);
            due.is("keep", x.of(w, 5), w + 1);
        }
    }

    private static void factLongUnsaidSaid(Due due) {
        UnsaidWords x = facts();
        Due.tell(x, 1, "tire long;keep unsaid;hear said;");
        due.is("LONG", x.asks(5, 0, true), 9);
        due.is("LONG", x.asks(0, 0, true), 1);
        due.is("UNSAID", x.of(5, 5), 40);
        due.is("UNSAID", x.of(0, 5), 7);
        due.is("SAID", x.asks(5, 0, false), 3);
        due.is("SAID", x.asks(0, 0, false), 0);
        x.set(2, 5, 9999);
        due.is("UNSAID", x.of(5, 5), 9999);
    }

    private static void factKin(Due due) {
        UnsaidWords x = world();
        for (int w = 0; w < 14; w++) {
            x.kin(w, 13, true);
        }
        Due.tell(x, 1, "tire kin;");
        due.is("all the others", x.asks(13, 0, true), 13);
        due.is("one", x.asks(0, 0, true), 1);
        Due.lapse(x, 1 | 2 | 4096);
        Due.tell(x, 1, "tire kin;");
        due.is("not LAPSED", x.asks(13, 0, true), 10);
        Due.lapse(x, 8192);
        Due.tell(x, 1, "tire kin;");
        due.is("none", x.asks(3, 0, true), 0);
        due.is("of a LAPSED one", x.asks(13, 0, true), 10);
    }

    private static void factKnows(Due due) {
        UnsaidWords x = Due.made(new int[] {1, 1}, 0, 1, 2, 3, 4, 5, 6, 7, 8, 9);
        Due.tell(x, 1, "tire knows;");
        due.is("nobody", x.asks(0, 0, true), 0);
        for (int p = 0; p < 10; p++) {
            x.teach(p, 0);
            due.is("wherever they are", x.asks(0, 5, true), p + 1);
        }
        due.is("nobody", x.asks(1, 0, true), 0);
        Due.lapse(x, 1);
        Due.tell(x, 1, "tire knows;");
        due.is("LAPSED", x.asks(0, 0, true), 0);
    }

    private static void factAt(Due due) {
        UnsaidWords x = Due.made(new int[] {1, 1}, 9, 4);
        Due.teach(x, 1, 2);
        Due.tell(x, 1, "tire at;hear at;keep at+3;");
        for (int place = 0; place < 10; place++) {
            due.is("tire", x.asks(0, place, true), place);
            due.is("hear", x.asks(0, place, false), place);
        }
        due.is("keep", x.of(0, 5), 3);
        due.is("say", x.say(0, 0), 0);
        due.is("BREATH by the PLACE of who says it", x.who(0, 2), 41);
        due.is("say", x.say(1, 1), 0);
        due.is("BREATH by the PLACE of who says it", x.who(1, 2), 46);
        x.set(1, 0, 8);
        due.is("not enough at that PLACE", x.say(0, 0), -1);
        x.set(1, 0, 9);
        due.is("enough", x.say(0, 0), 0);
        Due.tell(x, 1, "keep at+1;");
        x.set(2, 0, 0);
        due.is("keep at the end of a DAY", x.days(1), 2);
        UnsaidWords y = Due.made(new int[] {1}, 9);
        Due.tell(y, 1, "keep 2-at;");
        due.is("PLACE 0, not the first, nor where somebody is", y.days(1), 0);
        due.is("a day later", y.days(1), 1);
    }

    private static void factDay(Due due) {
        UnsaidWords x = Due.made(new int[] {1}, 0);
        Due.tell(x, 1, "tire day;keep 9999;");
        for (int day = 0; day < 99; day++) {
            due.is("tire", x.asks(0, 0, true), day);
            x.days(1);
        }
        Due.tell(x, 1, "keep day+1;");
        due.is("keep", x.of(0, 5), 100);
    }
}
