/** Promises 17 to 20 and 41: what is told of what is. */
public final class LookTest {
    private static final Due DUE = new Due("LookTest");
    private static final int MIN = Integer.MIN_VALUE;
    private static final int MAX = Integer.MAX_VALUE;

    public static void main(String[] args) {
        promise17();
        theLaw();
        conditions();
        promise18();
        promise19();
        promise20();
        promise41();
        DUE.close();
    }

    private static void promise17() {
        DUE.part("promise 17");
        UnsaidWords x = Due.made(new int[] {3, 20, 5}, 0, 0, 0);
        Due.teach(x, 1, 3, 1);
        x.kin(0, 2, true);
        x.kin(1, 2, true);
        x.set(2, 1, 17);
        x.say(0, 0);
        Due.lapse(x, 2);
        int[][] want = {{3, 1, 0, 1, 4, 365, 7}, {20, 18, 1, 0, 4, 365, 0}, {5, 1, 0, 0, 3, 365, 0}};
        for (int w = 0; w < 3; w++) {
            for (int what = 0; what < 7; what++) {
                DUE.is("of(" + w + ", " + what + ")", x.of(w, what), want[w][what]);
            }
        }
        unsaidAtMost();
        for (int bad : new int[] {-1, 7, MIN, MAX}) {
            DUE.is("of(0, " + bad + ")", x.of(0, bad), -1);
        }
        for (int bad : new int[] {-1, 3, 13, 14, MIN, MAX}) {
            DUE.is("of(" + bad + ", 0)", x.of(bad, 0), -1);
        }
    }

    /** Of WORDS around the most that UNSAID can be: their UNSAID behind a day, and what THE LAW reads of it. */
    private static void unsaidAtMost() {
        for (int had : new int[] {9997, 9998, 9999}) {
            UnsaidWords x = Due.made(new int[] {1}, 0);
            x.teach(0, 0);
            x.set(2, 0, had);
            Due.tell(x, 1, "keep 9999;");
            DUE.is("goes(400, 0) from UNSAID " + had, x.goes(400, 0), 1);
            DUE.is("of(0, 1) behind thought", x.of(0, 1), had);
            DUE.is("days(1) from UNSAID " + had, x.days(1), had == 9997 ? 0 : 1);
            DUE.is("of(0, 1) from UNSAID " + had, x.of(0, 1), had == 9997 ? 9998 : 9999);
            Due.tell(x, 1, "tire 1 when unsaid<9999;tire 2 when unsaid=9999;tire 3;");
            DUE.is("asks(0, 0, true) from UNSAID " + had, x.asks(0, 0, true), had == 9997 ? 1 : 2);
            x.days(3);
            DUE.is("of(0, 1), LAPSED", x.of(0, 1), 9999);
        }
    }

    /** keep of a WORD whose facts are all different numbers. */
    private static void keep(String sum, int want) {
        DUE.is("keep " + sum, facts(Due.made(new int[] {1, 1, 1, 1, 1, 9}, 0, 0, 0, 0), "keep " + sum + ";").of(5, 5), want);
    }

    /** word 5, long 9, unsaid 40, said 3, kin 2 (one more LAPSED), knows 4, at of 0, day 7. */
    private static UnsaidWords facts(UnsaidWords x, String law) {
        for (int p = 0; p < 4; p++) {
            x.teach(p, 5);
        }
        for (int i = 0; i < 3; i++) {
            x.say(i, 5);
        }
        Due.lapse(x, 1);
        x.days(6);
        for (int w = 0; w < 3; w++) {
            x.kin(5, w, true);
        }
        x.set(2, 5, 40);
        Due.tell(x, 1, law);
        return x;
    }

    private static void theLaw() {
        DUE.part("promise 17, THE LAW");
        keep("word", 5);
        keep("long", 9);
        keep("unsaid", 40);
        keep("said", 3);
        keep("kin", 2);
        keep("knows", 4);
        keep("1+at", 1);
        keep("day", 7);
        keep("1234", 1234);
        keep("100-word-long", 86);
        keep("100-word+long", 104);
        keep("2+3*4", 14);
        keep("2*3+4", 10);
        keep("20-2*3-4", 10);
        keep("long*word/7*2", 12);
        keep("7/2*2", 6);
        keep("100/7/2", 7);
        keep("100-7/2", 97);
        keep("100+word*2-unsaid/3", 97);
        keep("0-7/2+10", 7);
        keep("word-long", 1);
        keep("100+at-long/2*3+said", 91);
        keep("9999+1", 9999);
        keep("9999*9999", 9999);
        keep("9999*9999*9999", negative(9999 * 9999 * 9999));
        keep("9999*9999*43", negative(9999 * 9999 * 43));
        UnsaidWords x = facts(Due.made(new int[] {1, 1, 1, 1, 1, 9}, 0, 0, 0, 0),
                "tire at*10+1;hear 0-7;keep unsaid-kin-long;keep 3;");
        DUE.is("the first line", x.of(5, 5), 29);
        DUE.is("tire at a PLACE", x.asks(5, 8, true), 81);
        DUE.is("tire is held to 99", x.asks(5, 9, true), 91);
        Due.tell(x, 1, "tire 5-7/2*word;hear word-5-7/2;");
        DUE.is("/ towards 0, held to 0", x.asks(5, 0, true), 0);
        DUE.is("/ towards 0, held to 0", x.asks(5, 0, false), 0);
        Due.tell(x, 1, "tire 10+at-said-said;hear 7+at-long/2;keep 20+at-unsaid/3*2;");
        DUE.is("tire", x.asks(5, 0, true), 4);
        DUE.is("hear", x.asks(5, 1, false), 4);
        Due.tell(x, 1, "keep 0-7;tire 8-9/2+at;hear at-9/2+1;");
        DUE.is("a quotient of less than 0", x.asks(0, 1, false), 0);
        DUE.is("hear by at", x.asks(0, 9, false), 6);
        Due.tell(x, 1, "tire 0-7*at/2+50;");
        DUE.is("less than 0 by 2 towards 0", x.asks(0, 1, true), 47);
        DUE.is("keep without a line", x.of(0, 5), 365);
        DUE.is("hear without a line", x.asks(0, 0, false), 2);
        Due.tell(x, 1, "keep 5;");
        DUE.is("tire without a line", x.asks(5, 0, true), 9);
        Due.tell(x, 1, "keep 0;");
        DUE.is("held to 1", x.of(5, 5), 1);
    }

    private static int negative(int v) {
        return Math.max(1, Math.min(9999, v));
    }

    private static void when(String condition, boolean want) {
        UnsaidWords x = facts(Due.made(new int[] {1, 1, 1, 1, 1, 9}, 0, 0, 0, 0),
                "keep 77 when " + condition + ";keep 88;");
        DUE.is("when " + condition, x.of(5, 5), want ? 77 : 88);
    }

    private static void conditions() {
        DUE.part("promise 17, conditions");
        when("word=5", true);
        when("word=6", false);
        when("word<5", false);
        when("word<6", true);
        when("word>5", false);
        when("word>4", true);
        when("word-9<0", true);
        when("not word=5", false);
        when("not not word=5", true);
        when("not word=6 and word=6", false);
        when("not word=5 or word=5", true);
        when("word=6 or word=5", true);
        when("word=5 or word=6 and word=6", true);
        when("word=6 and word=6 or word=5", true);
        when("word=5 or word=5 and word=6", true);
        when("word=6 or word=5 and word=6", false);
        when("(word=5 or word=5) and word=6", false);
        when("not (word=5 and word=6)", true);
        when("not word=5 and word=6", false);
        when("not (word=6 or word=5)", false);
        when("1=1 and 1=1 and 1=2", false);
        when("1=2 or 1=2 or 1=1", true);
        when("1=2 or 1=1 and 1=2 or 1=2", false);
        when("(((1=1)))", true);
        when("long+unsaid=day*7", true);
        when("2*3=3+3 and 7/2=3 and 1-2<0", true);
        when("9999*9999*9999>0", 9999 * 9999 * 9999 > 0);
        when("9999*9999*43>0", 9999 * 9999 * 43 > 0);
        when("not (not (not (not 1=2)))", false);
        when("1=1 and (1=2 or (1=1 and (1=2 or (1=1 and (1=2 or (1=1 and (1=2 or 1+1+1*2=4)))))))", true);
    }

    private static void promise18() {
        DUE.part("promise 18");
        UnsaidWords x = Due.made(new int[] {3, 4, 5}, 9, 4);
        Due.teach(x, 5, 0);
        x.set(1, 1, 7);
        int[][] want = {{9, 5, 50}, {4, 0, 7}};
        for (int p = 0; p < 2; p++) {
            for (int what = 0; what < 3; what++) {
                DUE.is("who(" + p + ", " + what + ")", x.who(p, what), want[p][what]);
            }
        }
        for (int bad : new int[] {-1, 3, MIN, MAX}) {
            DUE.is("who(0, " + bad + ")", x.who(0, bad), -1);
        }
        for (int bad : new int[] {-1, 2, MIN, MAX}) {
            DUE.is("who(" + bad + ", 0)", x.who(bad, 0), -1);
        }
        Due.lapse(x, 4);
        DUE.is("no LAPSED WORD", x.who(0, 1), 1);
    }

    private static void promise19() {
        DUE.part("promise 19");
        UnsaidWords x = Due.made(new int[] {3, 14});
        DUE.is("hear", x.asks(0, 0, false), 2);
        DUE.is("tire", x.asks(0, 9, true), 3);
        DUE.is("tire", x.asks(1, 9, true), 14);
        for (int bad : new int[] {-1, 2, MIN, MAX}) {
            DUE.is("asks(" + bad + ")", x.asks(bad, 0, true), -1);
        }
        for (int bad : new int[] {-1, 10, MIN, MAX}) {
            DUE.is("asks at " + bad, x.asks(0, bad, false), -1);
        }
        Due.tell(x, 1, "hear at when at>4;hear 3 when word=1;tire 90+at;");
        DUE.is("hear", x.asks(0, 9, false), 9);
        DUE.is("hear", x.asks(1, 4, false), 3);
        DUE.is("no line that is so", x.asks(0, 4, false), 2);
        DUE.is("tire", x.asks(0, 9, true), 99);
        Due.tell(x, 1, "hear 10;tire 100;");
        DUE.is("hear is held to 9", x.asks(0, 0, false), 9);
        DUE.is("tire is held to 99", x.asks(0, 0, true), 99);
        Due.tell(x, 1, "hear 0;tire 0;");
        DUE.is("hear 0", x.asks(0, 0, false), 0);
        DUE.is("tire 0", x.asks(0, 0, true), 0);
        Due.lapse(x, 1);
        DUE.is("of a LAPSED one", x.asks(0, 0, true), 3);
    }

    private static void promise20() {
        DUE.part("promise 20");
        UnsaidWords x = Due.made(new int[] {3}, 0, 0, 0);
        x.teach(2, 0);
        x.days(3);
        x.move(1, 8);
        int[][] want = {{0, 4, 2, 0}, {3, 3, 1, 8}};
        for (int i = 0; i < 2; i++) {
            for (int what = 0; what < 4; what++) {
                DUE.is("book(" + i + ", " + what + ")", x.book(i, what), want[i][what]);
            }
        }
        for (int bad : new int[] {-1, 4, MIN, MAX}) {
            DUE.is("book(0, " + bad + ")", x.book(0, bad), -2);
        }
        for (int bad : new int[] {-1, 2, 149, 150, MIN, MAX}) {
            DUE.is("book(" + bad + ", 0)", x.book(bad, 0), -2);
        }
        x.undo();
        DUE.is("undone", x.book(1, 0), -2);
    }

    private static void promise41() {
        DUE.part("promise 41");
        UnsaidWords x = Due.made(new int[] {3, 4, 5, 6}, 0, 0, 0);
        x.teach(0, 0);
        Due.tell(x, 0, "means 0;means 1 2 or 3 0;means 1;means 2 3 or 0;means 0 1;");
        Due.tell(x, 2, "on 9 0 rests;on 9 0 rests;");
        Due.tell(x, 3, "need 0 by 1 worth 2;need 0 by 1 worth 2;need 0 by 1 worth 2;");
        DUE.is("all can be said", x.look(13), 31);
        Due.lapse(x, 10);
        Due.tell(x, 1, "keep 5;hear 1;keep 6;hear 2;keep 7;tire 3;");
        x.set(0, 0, 444);
        x.state(-8);
        x.teach(1, 0);
        x.talk(0, 0);
        x.talk(1, -1);
        int[] want = {4, 3, 1, 444, 10, 4, -8, 5, 6, 2, 3, 2, 1, 9};
        for (int what = 0; what < 14; what++) {
            DUE.is("look(" + what + ")", x.look(what), want[what]);
        }
        for (int bad : new int[] {-1, 14, MIN, MAX}) {
            DUE.is("look(" + bad + ")", x.look(bad), -1);
        }
        DUE.is("a look changes nothing: look(12)", x.look(12), 1);
    }
}
