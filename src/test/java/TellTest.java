/** Promises 1 to 7 and 13 to 16: what an object is at first, and what it is told. */
public final class TellTest {
    private static final Due DUE = new Due("TellTest");
    private static final int MIN = Integer.MIN_VALUE;
    private static final int MAX = Integer.MAX_VALUE;

    public static void main(String[] args) {
        promise1();
        promise2();
        promise3();
        promise4();
        promise5();
        promise6();
        promise7();
        promise13();
        promise14();
        promise15();
        promise16();
        faultsOfMeanings();
        faultsOfTheLaw();
        faultsOfWalks();
        faultsOfNeeds();
        tokens();
        DUE.close();
    }

    private static int tell(UnsaidWords x, int k, String text) {
        return Due.tell(x, k, text);
    }

    /** An object on which one thing can be undone. */
    private static UnsaidWords undoable() {
        UnsaidWords x = Due.made(new int[] {3, 4}, 0, 1);
        x.teach(0, 0);
        DUE.is("can be undone", x.look(12), 1);
        return x;
    }

    private static void promise1() {
        DUE.part("promise 1");
        UnsaidWords x = new UnsaidWords();
        for (int what = 0; what <= 13; what++) {
            DUE.is("look(" + what + ")", x.look(what), 0);
        }
        DUE.is("of", x.of(0, 0), -1);
        DUE.is("who", x.who(0, 0), -1);
        DUE.is("book", x.book(0, 0), -2);
        DUE.is("fault(0)", x.fault(0), 0);
        DUE.is("fault(1)", x.fault(1), -1);
        DUE.is("end(0)", x.end(0), true);
        DUE.is("end(1)", x.end(1), false);
        DUE.is("undo", x.undo(), false);
        DUE.is("image", x.image(false), false);
        UnsaidWords other = new UnsaidWords();
        x.word(1);
        DUE.is("another object's WORDS", other.look(0), 0);
    }

    private static void promise2() {
        DUE.part("promise 2");
        UnsaidWords x = undoable();
        DUE.is("state(5)", x.state(5), 0);
        DUE.is("look(12)", x.look(12), 0);
        DUE.is("look(6)", x.look(6), 5);
        DUE.is("state(-7)", x.state(-7), 5);
        DUE.is("state(MAX)", x.state(MAX), -7);
        DUE.is("state(MIN)", x.state(MIN), MAX);
        DUE.is("look(6)", x.look(6), MIN);
    }

    private static void promise3() {
        DUE.part("promise 3");
        UnsaidWords x = undoable();
        for (int bad : new int[] {0, -1, 21, MIN, MAX}) {
            DUE.is("word(" + bad + ")", x.word(bad), -1);
        }
        DUE.is("none was told: look(12)", x.look(12), 1);
        DUE.is("word(1)", x.word(1), 2);
        DUE.is("look(12)", x.look(12), 0);
        DUE.is("word(20)", x.word(20), 3);
        int[] atFirst = {20, 0, 0, 0, 0, 365, 0};
        for (int what = 0; what < 7; what++) {
            DUE.is("of(3, " + what + ")", x.of(3, what), atFirst[what]);
        }
        for (int i = 4; i < 14; i++) {
            DUE.is("word(5)", x.word(5), i);
        }
        x.teach(1, 13);
        DUE.is("the fifteenth", x.word(5), -1);
        DUE.is("look(0)", x.look(0), 14);
        DUE.is("look(12)", x.look(12), 1);
    }

    private static void promise4() {
        DUE.part("promise 4");
        UnsaidWords x = undoable();
        for (int bad : new int[] {-1, 10, MIN, MAX}) {
            DUE.is("person(" + bad + ")", x.person(bad), -1);
        }
        DUE.is("none was told: look(12)", x.look(12), 1);
        DUE.is("person(9)", x.person(9), 2);
        DUE.is("look(12)", x.look(12), 0);
        DUE.is("AT", x.who(2, 0), 9);
        DUE.is("TONGUE", x.who(2, 1), 0);
        DUE.is("BREATH", x.who(2, 2), 50);
        for (int i = 3; i < 10; i++) {
            DUE.is("person(0)", x.person(0), i);
        }
        x.move(2, 8);
        DUE.is("the eleventh", x.person(0), -1);
        DUE.is("none was told: look(12)", x.look(12), 1);
        DUE.is("look(1)", x.look(1), 10);
    }

    private static void promise5() {
        DUE.part("promise 5");
        UnsaidWords x = undoable();
        int[][] bad = {{0, 0, -1}, {0, 0, 1001}, {0, 0, MIN}, {1, 0, -1}, {1, 0, 100}, {1, 2, 5}, {1, -1, 5},
            {2, 0, -1}, {2, 0, 10000}, {2, 2, 5}, {2, -1, 5}, {2, MAX, 5}, {3, 0, 5}, {-1, 0, 5}, {MIN, 0, 5}};
        for (int[] b : bad) {
            DUE.is("set(" + b[0] + ", " + b[1] + ", " + b[2] + ")", x.set(b[0], b[1], b[2]), false);
        }
        DUE.is("none was told: look(12)", x.look(12), 1);
        DUE.is("CHAT, who not asked", x.set(0, -5, 1000), true);
        DUE.is("look(3)", x.look(3), 1000);
        DUE.is("look(12)", x.look(12), 0);
        DUE.is("CHAT", x.set(0, MAX, 0), true);
        DUE.is("look(3)", x.look(3), 0);
        DUE.is("BREATH", x.set(1, 1, 99), true);
        DUE.is("who(1, 2)", x.who(1, 2), 99);
        DUE.is("who(0, 2)", x.who(0, 2), 50);
        DUE.is("BREATH", x.set(1, 0, 0), true);
        DUE.is("who(0, 2)", x.who(0, 2), 0);
        DUE.is("UNSAID", x.set(2, 1, 9999), true);
        DUE.is("of(1, 1)", x.of(1, 1), 9999);
        DUE.is("of(0, 1)", x.of(0, 1), 0);
        for (int what = 0; what < 3; what++) {
            x.move(0, 1 + what);
            x.set(what, 0, 7);
            DUE.is("each forgets: look(12)", x.look(12), 0);
        }
    }

    private static void promise6() {
        DUE.part("promise 6");
        UnsaidWords x = undoable();
        int[][] bad = {{0, 0}, {1, 1}, {0, 2}, {2, 0}, {-1, 0}, {0, -1}, {MAX, 0}, {0, MIN}};
        for (int[] b : bad) {
            DUE.is("kin(" + b[0] + ", " + b[1] + ")", x.kin(b[0], b[1], true), false);
        }
        DUE.is("none was told: look(12)", x.look(12), 1);
        DUE.is("kin", x.kin(1, 0, true), true);
        DUE.is("look(12)", x.look(12), 0);
        DUE.is("of(0, 4)", x.of(0, 4), 2);
        DUE.is("of(1, 4)", x.of(1, 4), 1);
        x.word(5);
        DUE.is("kin", x.kin(0, 2, true), true);
        DUE.is("of(0, 4)", x.of(0, 4), 6);
        DUE.is("kin no more", x.kin(0, 1, false), true);
        DUE.is("of(0, 4)", x.of(0, 4), 4);
        DUE.is("of(1, 4)", x.of(1, 4), 0);
        DUE.is("of(2, 4)", x.of(2, 4), 1);
        x.move(0, 5);
        DUE.is("kin as it is", x.kin(2, 0, true), true);
        DUE.is("look(12)", x.look(12), 0);
        Due.lapse(x, 1);
        DUE.is("a LAPSED one", x.kin(0, 1, true), true);
        DUE.is("of(1, 4)", x.of(1, 4), 1);
    }

    private static void promise7() {
        DUE.part("promise 7");
        UnsaidWords x = undoable();
        int[][] bad = {{0, 0, 5}, {9, 9, 0}, {0, 10, 5}, {10, 0, 5}, {-1, 0, 5}, {0, -1, 5}, {0, 1, -1},
            {0, 1, 100}, {MIN, 0, 5}, {0, MAX, 5}};
        for (int[] b : bad) {
            DUE.is("miles(" + b[0] + ", " + b[1] + ", " + b[2] + ")", x.miles(b[0], b[1], b[2]), false);
        }
        DUE.is("none was told: look(12)", x.look(12), 1);
        DUE.is("at first", x.round(0, 1 << 9, 0), 10);
        DUE.is("miles", x.miles(9, 0, 99), true);
        DUE.is("look(12)", x.look(12), 0);
        DUE.is("one way", x.round(0, 1 << 9, 0), 99);
        x.move(0, 9);
        DUE.is("the other way", x.round(0, 1, 0), 99);
        DUE.is("the same", x.round(0, 1 << 9, 0), 0);
        DUE.is("miles", x.miles(0, 9, 0), true);
        DUE.is("none", x.round(0, 1, 0), 0);
        DUE.is("others", x.round(0, 2, 0), 10);
    }

    private static void promise13() {
        DUE.part("promise 13");
        UnsaidWords x = Due.made(new int[] {3});
        DUE.is("the highest first", x.feed(0x6D65616E, 0x7320303B, 0x6D65616E, 0x7320303B, 0x20202020), 20);
        DUE.is("text", x.text(0), 2);
        for (int i = 1; i <= 20; i++) {
            DUE.is("feed", x.feed(MIN, MAX, 0, -1, i), 20 * i);
        }
        DUE.is("the 401st", x.feed(0, 0, 0, 0, 0), -1);
        DUE.is("nothing came", x.end(401), false);
        DUE.is("end(381)", x.end(381), true);
        DUE.is("still too many", x.feed(0, 0, 0, 0, 0), -1);
        DUE.is("end(380)", x.end(380), true);
        DUE.is("feed", x.feed(0, 0, 0, 0, 0), 400);
        DUE.is("a text of 400 bytes", x.end(0), true);
        StringBuilder text = new StringBuilder("means 0;");
        while (text.length() < 400) {
            text.append(text.length() % 2 == 0 ? ' ' : '\n');
        }
        DUE.is("text", tell(x, 0, text.toString()), 1);
        x.feed(-1, -1, -1, -1, -1);
        DUE.is("a byte is without sign: end", x.end(4), true);
        DUE.is("text", x.text(0), -1);
        DUE.is("fault(1)", x.fault(1), 0);
    }

    private static void promise14() {
        DUE.part("promise 14");
        UnsaidWords x = Due.made(new int[] {3});
        DUE.is("end(0)", x.end(0), true);
        DUE.is("end(1)", x.end(1), false);
        DUE.is("end(-1)", x.end(-1), false);
        Due.tape(x, "means 0;means 0");
        DUE.is("end(16)", x.end(16), false);
        DUE.is("end(MAX)", x.end(MAX), false);
        DUE.is("end(MIN)", x.end(MIN), false);
        DUE.is("end(15)", x.end(15), true);
        DUE.is("end(8)", x.end(8), true);
        DUE.is("not longer again", x.end(9), false);
        DUE.is("text", x.text(0), 1);
        DUE.is("empty then", x.end(1), false);
        Due.tape(x, "means 0;");
        Due.tape(x, "means 0;");
        DUE.is("one behind the other", x.text(0), 2);
        UnsaidWords y = undoable();
        Due.tape(y, "means 0;");
        DUE.is("the TAPE forgets nothing", y.look(12), 1);
    }

    private static void promise15() {
        DUE.part("promise 15");
        UnsaidWords x = undoable();
        DUE.is("MEANINGS", tell(x, 0, "means 0;means 1 or 0 1;"), 2);
        DUE.is("NEEDS", tell(x, 3, "need 1 by 2 worth 3;"), 1);
        DUE.is("THE LAW", tell(x, 1, "keep 5;hear 1;tire 2;"), 3);
        DUE.is("they forget nothing", x.look(12), 1);
        for (int what = 7; what <= 10; what++) {
            DUE.is("look(" + what + ")", x.look(what), new int[] {2, 3, 0, 1}[what - 7]);
        }
        DUE.is("WALKS with a FAULT", tell(x, 2, "on 1 2 rests;"), -1);
        DUE.is("forget nothing", x.look(12), 1);
        DUE.is("WALKS", tell(x, 2, "on 1 0 rests;on 1 1 goes 3;on 0 0 says 1;on 5 1 rests;"), 4);
        DUE.is("forget", x.look(12), 0);
        DUE.is("MEANINGS with a FAULT", tell(x, 0, "means 0;means 2;"), -1);
        DUE.is("stay", x.look(7), 2);
        DUE.is("and NEEDS", x.look(10), 1);
        DUE.is("THE LAW with a FAULT", tell(x, 1, "keep 9;keep"), -1);
        DUE.is("stays", x.of(0, 5), 5);
        DUE.is("NEEDS with a FAULT", tell(x, 3, "need 0 by 0 worth 0;"), -1);
        DUE.is("stay", x.look(10), 1);
        DUE.is("WALKS with a FAULT", tell(x, 2, "on 1;"), -1);
        DUE.is("stay", x.look(9), 4);
        for (int k : new int[] {-1, 4, MIN, MAX}) {
            DUE.is("a FAULT", tell(x, 0, ";"), -1);
            Due.tape(x, "means 0;");
            DUE.is("text(" + k + ")", x.text(k), -1);
            DUE.is("fault(0)", x.fault(0), 0);
            DUE.is("fault(1)", x.fault(1), -1);
            DUE.is("the TAPE is empty", x.end(1), false);
        }
        DUE.is("MEANINGS told anew", tell(x, 0, " means\n0 \n;"), 1);
        DUE.is("look(7)", x.look(7), 1);
        DUE.is("NEEDS are empty", x.look(10), 0);
        for (int k = 0; k < 4; k++) {
            DUE.is("nothing", tell(x, k, k % 2 == 0 ? "" : " \n "), 0);
            DUE.is("look", x.look(7 + k), 0);
        }
    }

    private static void promise16() {
        DUE.part("promise 16");
        UnsaidWords x = Due.made(new int[] {3, 4}, 0);
        DUE.is("text", tell(x, 0, "means 0 0 or;"), -1);
        DUE.is("fault(0)", x.fault(0), 1);
        DUE.is("fault(1)", x.fault(1), 12);
        DUE.is("fault(2)", x.fault(2), -1);
        DUE.is("fault(-1)", x.fault(-1), -1);
        DUE.is("fault(MIN)", x.fault(MIN), -1);
        x.image(true);
        x.image(false);
        DUE.is("fault(0) as it was", x.fault(0), 1);
        DUE.is("text", tell(x, 0, "means 0 0 or 1;"), 1);
        DUE.is("fault(0)", x.fault(0), 0);
        DUE.is("fault(1)", x.fault(1), -1);
    }

    /** A text of an object with 14 WORDS, 3 PEOPLE and 2 MEANINGS; what 0: no FAULT, place its lines. */
    private static void fault(int k, String text, int what, int place) {
        UnsaidWords x = Due.made(new int[] {1, 2, 3, 4, 5, 6, 7, 8, 9, 10, 11, 12, 13, 14}, 0, 1, 2);
        tell(x, 0, "means 0;means 1;");
        DUE.is("text(" + k + ") of '" + text + "'", tell(x, k, text), what == 0 ? place : -1);
        DUE.is("fault(0) of '" + text + "'", x.fault(0), what);
        DUE.is("fault(1) of '" + text + "'", x.fault(1), what == 0 ? -1 : place);
    }

    private static void faultsOfMeanings() {
        DUE.part("promise 16, MEANINGS");
        fault(0, "means 13;", 0, 1);
        fault(0, "means 14;", 2, 6);
        fault(0, "means 0 1 2 14 x", 2, 12);
        fault(0, "means 0 1 2 3 4 5;", 0, 1);
        fault(0, "means 0 1 2 3 4 5 6;", 3, 18);
        fault(0, "means 0 1 2 3 4 5 14;", 2, 18);
        fault(0, "means 0 1 2 3 4 5 or 6;", 0, 1);
        fault(0, "means 0 1 2 3 4 5 00000;", 1, 18);
        fault(0, "means 0 or 0 or 0 or 0 or 0 or 0;", 0, 1);
        fault(0, "means 0 or 0 or 0 or 0 or 0 or 0 or 0;", 3, 33);
        fault(0, "means 0 or 0 or 0 or 0 or 0 or 0 or", 3, 33);
        fault(0, "means", 1, 5);
        fault(0, "means ", 1, 6);
        fault(0, "means 0 ", 1, 8);
        fault(0, "means 0 or", 1, 10);
        fault(0, "means 0 or or 1;", 1, 11);
        fault(0, "means ;", 1, 6);
        fault(0, "means or 1;", 1, 6);
        fault(0, "means 0;;", 1, 8);
        fault(0, "0;", 1, 0);
        fault(0, " means 0 means 1;", 1, 9);
        fault(0, "means 1 + 1;", 1, 8);
        String ten = "means 0;means 0;means 0;means 0;means 0;means 0;means 0;means 0;means 0;means 0;";
        fault(0, ten, 0, 10);
        fault(0, ten + "means 0;", 3, 80);
        fault(0, ten + " means", 3, 81);
        fault(0, ten + "or", 1, 80);
    }

    private static void faultsOfTheLaw() {
        DUE.part("promise 16, THE LAW");
        fault(1, "keep 0;hear 9999;tire unsaid;", 0, 3);
        fault(1, "keep word+long-unsaid*said/7+kin*knows-at+day;", 0, 1);
        fault(1, "keep 10000;", 1, 5);
        fault(1, "keep 00009;", 1, 5);
        fault(1, "keep -1;", 1, 5);
        fault(1, "keep (1);", 1, 5);
        fault(1, "keep 1+;", 1, 7);
        fault(1, "keep 1 2;", 1, 7);
        fault(1, "keep 1*2/3*word-4;", 0, 1);
        fault(1, "keep 1/word;", 1, 7);
        fault(1, "keep 1/0;", 2, 7);
        fault(1, "keep 1/0000", 2, 7);
        fault(1, "keep 1/00000", 1, 7);
        fault(1, "keep 1/1/0;", 2, 9);
        fault(1, "keep 1/+;", 1, 7);
        fault(1, "keep 1*/2;", 1, 7);
        fault(1, "keep 1=1;", 1, 6);
        fault(1, "keep when 1=1;", 1, 5);
        fault(1, "keep 1 when;", 1, 11);
        fault(1, "keep 1 when", 1, 11);
        fault(1, "keep 1 when 1;", 1, 13);
        fault(1, "keep 1 when 1<;", 1, 14);
        fault(1, "keep 1 when 1<2;", 0, 1);
        fault(1, "keep 1 when 1<2<3;", 1, 15);
        fault(1, "keep 1 when 1<=2;", 1, 14);
        fault(1, "keep 1 when 1<2 and;", 1, 19);
        fault(1, "keep 1 when 1<2 or and 1<2;", 1, 19);
        fault(1, "keep 1 when (1<2;", 1, 16);
        fault(1, "keep 1 when 1<2);", 1, 15);
        fault(1, "keep 1 when (1)<2;", 1, 14);
        fault(1, "keep 1 when ();", 1, 13);
        fault(1, "keep 1 when not;", 1, 15);
        fault(1, "keep 1 when 1<2 not 1<2;", 1, 16);
        fault(1, "keep 1 when 1<not 2;", 1, 14);
        fault(1, "keep 1 when 1<2 when 1<2;", 1, 16);
        fault(1, "keep 1 when 1/0=1 or (1", 2, 14);
        fault(1, "keep 1 when ((((((((1=1))))))));", 0, 1);
        fault(1, "keep 1 when (((((((((1=1)))))))));", 3, 20);
        fault(1, "keep 1 when (((((((not (1=1))))))));", 3, 23);
        fault(1, "keep 1 when (((((((not 1=1)))))));", 0, 1);
        fault(1, "keep 1 when not(not(not(not(1=1))));", 0, 1);
        fault(1, "keep 1 when not(not(not(not(not 1=1))));", 3, 28);
        fault(1, "keep 1 when not not not not not not not not 1=1 and not 1=1;", 0, 1);
        fault(1, "keep 1 when not not not not not not not not 1=1 and not not not not not not not not not 1=1;", 3, 84);
        fault(1, "keep 1 when (1=1)and(1=1)and(1=1)and(1=1)and(1=1)and(1=1)and(1=1)and(1=1)and(1=1);", 0, 1);
        fault(1, "keep 1 when (((((((( not", 3, 21);
        fault(1, "on 1;", 1, 0);
        fault(1, "keep on;", 1, 5);
        fault(1, "keep when;", 1, 5);
        fault(1, "keep 1", 1, 6);
        String eight = "keep 1;hear 1;tire 1;keep 1;hear 1;tire 1;keep 1;hear 1;";
        fault(1, eight + eight, 0, 16);
        fault(1, eight + eight + "tire 1;", 3, 112);
        fault(1, eight + eight + "when", 1, 112);
    }

    private static void faultsOfWalks() {
        DUE.part("promise 16, WALKS");
        fault(2, "on 999 2 goes 9;on 0 0 says 13;on 5 1 rests;", 0, 3);
        fault(2, "on 1000 2 goes 9;", 2, 3);
        fault(2, "on 10000 2 goes 9;", 1, 3);
        fault(2, "on 1 3 goes 9;", 2, 5);
        fault(2, "on 1 2 goes 10;", 2, 12);
        fault(2, "on 1 2 says 14;", 2, 12);
        fault(2, "on 1 2 rests 1;", 1, 13);
        fault(2, "on 1 2 goes;", 1, 11);
        fault(2, "on 1 2;", 1, 6);
        fault(2, "on 1 2 keep 1;", 1, 7);
        fault(2, "on 1;", 1, 4);
        fault(2, "on;", 1, 2);
        fault(2, "on 1 2 says 1", 1, 13);
        fault(2, "goes 1;", 1, 0);
        String four = "on 0 0 rests;on 0 0 rests;on 0 0 rests;on 0 0 rests;";
        fault(2, four + four + four + four, 0, 16);
        fault(2, four + four + four + four + "on 0 9 rests;", 3, 208);
        UnsaidWords nobody = new UnsaidWords();
        DUE.is("without PEOPLE", tell(nobody, 2, "on 0 0 rests;"), -1);
        DUE.is("fault(0)", nobody.fault(0), 2);
        DUE.is("fault(1)", nobody.fault(1), 5);
    }

    private static void faultsOfNeeds() {
        DUE.part("promise 16, NEEDS");
        fault(3, "need 0 by 0 worth 1;need 1 by 999 worth 99;", 0, 2);
        fault(3, "need 2 by 0 worth 1;", 2, 5);
        fault(3, "need 0 by 1000 worth 1;", 2, 10);
        fault(3, "need 0 by 1 worth 0;", 2, 18);
        fault(3, "need 0 by 1 worth 100;", 2, 18);
        fault(3, "need 0 by 1 worth;", 1, 17);
        fault(3, "need 0 by worth 1;", 1, 10);
        fault(3, "need 0 worth 1;", 1, 7);
        fault(3, "need by 1 worth 1;", 1, 5);
        fault(3, "need 0 by 1 worth 1", 1, 19);
        fault(3, "means 0;", 1, 0);
        String four = "need 0 by 1 worth 1;need 0 by 1 worth 1;need 0 by 1 worth 1;need 0 by 1 worth 1;";
        fault(3, four + four + four, 0, 12);
        fault(3, four + four + four + "need 2", 3, 240);
    }

    private static void tokens() {
        DUE.part("promise 16, tokens");
        fault(0, "means0or1;", 0, 1);
        fault(0, "means 0\n\nor 0001;", 0, 1);
        fault(0, "means\t0;", 1, 5);
        fault(0, "Means 0;", 1, 0);
        fault(0, "meansX 0;", 1, 0);
        fault(0, "mean 0;", 1, 0);
        for (String letter : new String[] {"a", "z", "A", "Z"}) {
            fault(0, "means" + letter + " 0;", 1, 0);
        }
        for (String none : new String[] {"@", "[", "`", "{", "\u007f", "\u00e9"}) {
            fault(0, "means" + none + " 0;", 1, 5);
        }
        for (String none : new String[] {"/", ":", "!", "\u000b", "\u000c", "\u00a0"}) {
            fault(0, "means 0" + none + ";", 1, 7);
        }
        fault(0, "means 0 orr 1;", 1, 8);
        fault(0, "means 0 o r 1;", 1, 8);
        fault(0, "means 0.", 1, 7);
        fault(0, "means 0\u0000;", 1, 7);
        fault(0, "means 0\u00ff;", 1, 7);
        fault(0, "means 0 means;", 1, 8);
        fault(0, "means 0 keep;", 1, 8);
        fault(1, "keep unsaidx;", 1, 5);
        fault(1, "keep unsai;", 1, 5);
        fault(1, "keep1when1=1;", 0, 1);
        fault(1, "keep word word;", 1, 10);
        fault(1, "keep 1\r;", 1, 6);
        fault(1, "keep1whennot1=1;", 1, 5);
        fault(0, ";".repeat(400), 1, 0);
        fault(0, "means 0;" + ")".repeat(392), 1, 8);
        fault(1, "keep1" + "+1".repeat(197) + ";", 0, 1);
        fault(1, "keep1" + "+1".repeat(197) + " ", 1, 400);
        UnsaidWords x = Due.made(new int[] {1});
        tell(x, 1, "keep1" + "+1".repeat(197) + ";");
        DUE.is("a sum as long as the TAPE", x.of(0, 5), 198);
        tell(x, 1, "keep9when(1=1or1=1and(1=1or1=1and(1=1or1=1and(1=1or1=1and(1=1or1=1and(1=1or1=1and"
                + "(1=1or1=1and(1=1or1=1and1=1and 2-1*1=3-1*2or 0=1))))))));keep8;");
        DUE.is("as much is open as can be", x.of(0, 5), 9);
    }
}
