/** Promises 21 to 38: what is found in thought. */
public final class ThoughtTest {
    private static final Due DUE = new Due("ThoughtTest");
    private static final int MIN = Integer.MIN_VALUE;
    private static final int MAX = Integer.MAX_VALUE;
    private static final int[] BAD = {-1, 4, MIN, MAX};

    public static void main(String[] args) {
        promise21();
        promise22();
        promise23();
        promise24();
        promise25();
        promise26();
        promise27();
        promise28();
        promise29();
        promise30();
        promise31();
        promise32();
        promise33();
        promise34();
        promise35();
        promise36();
        promise37();
        promise38();
        DUE.close();
    }

    private static int tell(UnsaidWords x, int k, String text) {
        return Due.tell(x, k, text);
    }

    private static void promise21() {
        DUE.part("promise 21");
        UnsaidWords x = Due.made(new int[] {1, 1, 1, 1}, 0, 0, 1);
        Due.teach(x, 15, 1, 2);
        Due.lapse(x, 8);
        tell(x, 1, "keep 5+word when word<2;keep 5;hear 1;");
        tell(x, 2, "on 3 0 says 0;on 4 0 goes 1;on 5 0 says 1;");
        x.set(0, 0, 1000);
        x.state(77);
        int lines = x.look(5);
        int[][] want = {{1, 1, -1, -1}, {3, 1, -1, -1}, {4, 2, 2, 4}, {7, 3, 2, 4}, {8, 3, 2, 4}, {10, 4, 2, 4}, {400, 4, 2, 4}};
        for (int[] w : want) {
            for (int what = 0; what < 3; what++) {
                DUE.is("goes(" + w[0] + ", " + what + ")", x.goes(w[0], what), w[what + 1]);
            }
        }
        for (int bad : new int[] {0, -1, 401, MIN, MAX}) {
            DUE.is("goes(" + bad + ", 0)", x.goes(bad, 0), -2);
        }
        for (int bad : new int[] {-1, 3, MIN, MAX}) {
            DUE.is("goes(1, " + bad + ")", x.goes(1, bad), -2);
        }
        DUE.is("nothing stays: DAY", x.look(2), 1);
        DUE.is("STATE", x.look(6), 77);
        DUE.is("CHAT", x.look(3), 1000);
        DUE.is("THE BOOK", x.look(5), lines);
        DUE.is("LAPSED", x.look(4), 8);
        DUE.is("UNSAID", x.of(0, 1), 1);
        DUE.is("AT", x.who(0, 0), 0);
        tell(x, 1, "keep 1;");
        DUE.is("the least of a DAY first", x.goes(5, 1), 0);
        DUE.is("its DAY", x.goes(5, 2), 1);
        UnsaidWords y = Due.made(new int[] {9, 6}, 0, 0);
        Due.teach(y, 3, 3);
        tell(y, 1, "keep long;hear 1;");
        DUE.is("LONG in thought", y.goes(20, 1), 1);
        DUE.is("its DAY", y.goes(20, 2), 5);
        tell(y, 2, "on 1 0 says 1;");
        y.set(1, 0, 0);
        DUE.is("tire is LONG in thought, BREATH 5", y.goes(20, 2), 5);
        y.set(1, 0, 1);
        DUE.is("BREATH 6 is enough", y.goes(20, 2), 6);
        nobodyChats();
    }

    /** The STATE is such that who draws below 1 would speak. */
    private static void nobodyChats() {
        UnsaidWords x = Due.made(new int[] {1}, 0, 0);
        Due.teach(x, 1, 1);
        tell(x, 1, "keep 2;hear 0;");
        int state = 0;
        while (((state * 1664525 + 1013904223) >>> 8) % 1000 != 0) {
            state++;
        }
        x.days(1);
        x.set(0, 0, 1);
        x.state(state);
        DUE.is("nobody chats", x.goes(1, 0), 1);
        DUE.is("somebody does", x.days(1), 0);
    }

    private static void promise22() {
        DUE.part("promise 22");
        UnsaidWords x = Due.made(new int[] {1, 1, 1}, 0, 0);
        Due.teach(x, 7, 7);
        tell(x, 0, "means 0;means 1 or 2;means 0 1;");
        DUE.is("none", x.misses(0), -1);
        DUE.is("none", x.misses(1), 0);
        tell(x, 1, "keep 3 when word=0;keep 5 when word=1;keep 6;hear 1;");
        tell(x, 3, "need 0 by 2 worth 1;need 0 by 1 worth 2;need 1 by 4 worth 4;need 1 by 5 worth 8;"
                + "need 2 by 2 worth 16;need 2 by 1 worth 32;need 1 by 5 worth 64;");
        DUE.is("the first by DAY, then number", x.misses(0), 0);
        DUE.is("2 by 1, 1 by 4, 2 by 1", x.misses(1), 38);
        tell(x, 2, "on 1 0 says 0;");
        DUE.is("said in thought", x.misses(0), 3);
        DUE.is("worth", x.misses(1), 55);
        x.set(0, 0, 1000);
        DUE.is("nobody chats", x.misses(1), 55);
        x.set(0, 0, 0);
        x.days(2);
        DUE.is("DAYS from this one on", x.misses(0), 3);
        DUE.is("worth", x.misses(1), 21);
        x.days(1);
        DUE.is("worth", x.misses(1), 4);
        x.days(3);
        DUE.is("past", x.misses(0), -1);
        DUE.is("past", x.misses(1), 0);
        for (int bad : new int[] {-1, 2, MIN, MAX}) {
            DUE.is("misses(" + bad + ")", x.misses(bad), -1);
        }
        UnsaidWords y = Due.made(new int[] {1, 1});
        tell(y, 0, "means 0;means 1;");
        tell(y, 3, "need 0 by 9 worth 1;need 1 by 3 worth 2;need 0 by 3 worth 3;need 1 by 999 worth 4;");
        tell(y, 1, "keep 1 when word=0;keep 2;");
        DUE.is("the DAY ahead of the number", y.misses(0), 1);
        tell(y, 1, "keep 1 when word=0;keep 9999;");
        DUE.is("the DAY ahead of the number", y.misses(0), 2);
        DUE.is("far DAYS", y.misses(1), 6);
    }

    private static void promise23() {
        DUE.part("promise 23");
        UnsaidWords x = Due.made(new int[] {5, 3, 2, 9});
        tell(x, 0, "means 0 1 or 3 or 1 1 1;means 3;means 2 2 2 or 1 1 or 0;");
        DUE.is("the least LONG", x.wording(0, 0), 8);
        DUE.is("its number", x.wording(0, 1), 0);
        DUE.is("as often as it stands there", x.wording(2, 0), 5);
        DUE.is("its number", x.wording(2, 1), 2);
        Due.lapse(x, 1);
        DUE.is("of several the first", x.wording(0, 1), 1);
        DUE.is("LONG", x.wording(0, 0), 9);
        DUE.is("of several the first", x.wording(2, 1), 0);
        DUE.is("LONG", x.wording(2, 0), 6);
        Due.lapse(x, 8);
        DUE.is("without LAPSED WORDS", x.wording(0, 1), 2);
        DUE.is("LONG", x.wording(0, 0), 9);
        DUE.is("there is none", x.wording(1, 0), -1);
        DUE.is("there is none", x.wording(1, 1), -1);
        for (int bad : new int[] {-1, 2, MIN, MAX}) {
            DUE.is("wording(0, " + bad + ")", x.wording(0, bad), -1);
        }
        for (int bad : new int[] {-1, 3, 9, 10, MIN, MAX}) {
            DUE.is("wording(" + bad + ", 0)", x.wording(bad, 0), -1);
        }
    }

    private static void go(UnsaidWords x, int... want) {
        for (int what = 0; what < 4; what++) {
            DUE.is("go(" + what + ")", x.go(what), want[what]);
        }
    }

    private static void promise24() {
        DUE.part("promise 24");
        UnsaidWords x = new UnsaidWords();
        go(x, 0, 0, 0, 0);
        x = Due.made(new int[] {1, 1, 1, 1, 1, 1});
        go(x, 6, 63, 0, 0);
        tell(x, 0, "means 0 or 5;means 1 2 or 3;means 4;");
        go(x, 3, 7, 0, 0);
        Due.lapse(x, 8);
        go(x, 1, 1, 0, 0);
        tell(x, 0, "means 0 or 5;means 1 2 or 3;means 3 4;means 3 or 5;");
        go(x, 2, 17, 1, 8);
        Due.lapse(x, 1 | 2 | 32);
        go(x, 2, 20, 2, 9);
        tell(x, 0, "means 0 5 or 1 3;means 5;means 5 1 or 3 0;means 4 or 2;");
        go(x, 1, 4, 3, 35);
        tell(x, 0, "means 5 or 3 or 1;means 5 or 3;means 4 5 or 1;");
        go(x, 2, 20, 1, 32);
        tell(x, 0, "means 0 or 1;means 3 or 5;");
        go(x, 2, 20, 2, 9);
        for (int bad : BAD) {
            DUE.is("go(" + bad + ")", x.go(bad), -1);
        }
        UnsaidWords y = Due.made(new int[] {1, 1, 1, 1, 1, 1, 1, 1, 1, 1, 1, 1, 1, 1});
        tell(y, 0, "means 0 1 or 12 13;means 3 or 13;");
        go(y, 12, 4095, 0, 0);
        Due.lapse(y, 16383);
        go(y, 0, 0, 2, 12288);
    }

    private static void promise25() {
        DUE.part("promise 25");
        UnsaidWords x = Due.made(new int[] {1, 1, 1, 1});
        DUE.is("nobody", x.keepers(0), 0);
        DUE.is("nobody", x.keepers(1), 0);
        DUE.is("nobody", x.keepers(2), -1);
        for (int i = 0; i < 5; i++) {
            x.person(i);
        }
        DUE.is("no WORDS known", x.keepers(0), 0);
        DUE.is("of several the least", x.keepers(2), 0);
        Due.teach(x, 1, 2 | 4, 1 | 2, 1 | 4, 4);
        DUE.is("two keep all", x.keepers(0), 2);
        DUE.is("of several the least set", x.keepers(1), 3);
        DUE.is("all cost nothing", x.keepers(2), 0);
        x.teach(3, 3);
        DUE.is("how many", x.keepers(0), 2);
        DUE.is("the set", x.keepers(1), 8 | 2);
        DUE.is("the dearest", x.keepers(2), 3);
        x.teach(4, 3);
        DUE.is("of several the least set", x.keepers(1), 8 | 2);
        x.teach(0, 3);
        DUE.is("of several the least set", x.keepers(1), 3);
        for (int bad : new int[] {-1, 3, MIN, MAX}) {
            DUE.is("keepers(" + bad + ")", x.keepers(bad), -1);
        }
        UnsaidWords y = Due.made(new int[] {1, 1, 1}, 0, 0, 0);
        Due.teach(y, 1, 2, 4);
        DUE.is("all are needed", y.keepers(1), 7);
        DUE.is("of several the least", y.keepers(2), 0);
    }

    private static void promise26() {
        DUE.part("promise 26");
        UnsaidWords x = Due.made(new int[] {1, 1, 1, 1, 1}, 0, 1, 0);
        DUE.is("costs(0)", x.costs(0), 0);
        Due.teach(x, 1 | 2, 2 | 4 | 8, 2);
        DUE.is("costs(0)", x.costs(0), 1);
        DUE.is("costs(1)", x.costs(1), 2);
        DUE.is("costs(2)", x.costs(2), 0);
        for (int bad : new int[] {-1, 3, 10, MIN, MAX}) {
            DUE.is("costs(" + bad + ")", x.costs(bad), -1);
        }
        DUE.is("the dearest", x.keepers(2), 1);
    }

    private static void round(UnsaidWords x, int places, int miles, int... order) {
        DUE.is("round(0, " + places + ", 0)", x.round(0, places, 0), miles);
        for (int i = 0; i < order.length; i++) {
            DUE.is("round(0, " + places + ", " + (10 + i) + ")", x.round(0, places, 10 + i), order[i]);
        }
        DUE.is("behind the last", x.round(0, places, 10 + order.length), -1);
    }

    private static void promise27() {
        DUE.part("promise 27");
        UnsaidWords x = Due.made(new int[] {1}, 0);
        round(x, 0, 0);
        round(x, 1, 0, 0);
        round(x, 1 << 9, 10, 9);
        round(x, 2 | 4 | 8, 30, 1, 2, 3);
        round(x, 2 | 4 | 8 | 1, 30, 0, 1, 2, 3);
        x.miles(0, 3, 1);
        x.miles(3, 1, 1);
        x.miles(1, 2, 1);
        round(x, 2 | 4 | 8, 3, 3, 1, 2);
        x.miles(0, 2, 1);
        round(x, 2 | 4 | 8, 3, 2, 1, 3);
        x.miles(1, 4, 99);
        round(x, 2 | 16, 109, 1, 4);
        x.miles(0, 1, 11);
        round(x, 2 | 16, 109, 4, 1);
        x.miles(0, 1, 10);
        x.miles(1, 4, 10);
        round(x, 2 | 16, 20, 1, 4);
        round(x, 2 | 4 | 8 | 16 | 32 | 64, 33, 2, 1, 3, 4, 5, 6);
        x.move(0, 6);
        x.miles(6, 5, 0);
        x.miles(6, 4, 0);
        round(x, 16 | 32 | 64, 0, 4, 6, 5);
        round(x, 1 | 2 | 4 | 8 | 16 | 32, 23, 4, 0, 2, 1, 3, 5);
        round(x, 1 | 32, 10, 5, 0);
        for (int bad : new int[] {127, 1023, 1024, 1025, -1, MIN, MAX, 2 | 1 << 30}) {
            DUE.is("round(0, " + bad + ", 0)", x.round(0, bad, 0), -1);
        }
        for (int bad : new int[] {-1, 1, 9, 16, MIN, MAX}) {
            DUE.is("round(0, 63, " + bad + ")", x.round(0, 63, bad), -1);
        }
        for (int bad : new int[] {-1, 1, MIN, MAX}) {
            DUE.is("round(" + bad + ", 1, 0)", x.round(bad, 1, 0), -1);
        }
    }

    private static void promise28() {
        DUE.part("promise 28");
        UnsaidWords x = Due.made(new int[] {1, 1, 1, 1, 1, 1, 1, 1, 1}, 0, 5, 5);
        Due.teach(x, 255, 254, 0);
        int[] unsaid = {99, 5, 7, 5, 9, 5, 5, 0, 99};
        for (int w = 0; w < 9; w++) {
            x.set(2, w, unsaid[w]);
        }
        int[][] want = {{1, 9, 16}, {2, 16, 20}, {3, 21, 22}, {4, 26, 30}, {5, 31, 62}, {6, 36, 126}};
        for (int[] w : want) {
            DUE.is("both have", x.quarrel(0, 1, w[0], 0), 7);
            DUE.is("the sum of " + w[0], x.quarrel(0, 1, w[0], 1), w[1]);
            DUE.is("the set of " + w[0], x.quarrel(1, 0, w[0], 2), w[2]);
        }
        DUE.is("none", x.quarrel(0, 2, 1, 0), 0);
        DUE.is("not so many", x.quarrel(0, 2, 1, 1), -1);
        DUE.is("not so many", x.quarrel(2, 0, 1, 2), -1);
        x.teach(2, 3);
        DUE.is("one", x.quarrel(0, 2, 6, 0), 1);
        DUE.is("not so many", x.quarrel(0, 2, 2, 1), -1);
        DUE.is("one", x.quarrel(0, 2, 1, 2), 8);
        x.set(2, 3, 0);
        DUE.is("a sum of 0", x.quarrel(0, 2, 1, 1), 0);
        x.teach(2, 0);
        DUE.is("WORD 0", x.quarrel(0, 2, 1, 1), 99);
        DUE.is("WORD 0", x.quarrel(0, 2, 1, 2), 1);
        int[][] bad = {{0, 0, 1, 0}, {-1, 0, 1, 0}, {0, -1, 1, 0}, {3, 0, 1, 0}, {0, 3, 1, 0}, {0, 1, 0, 0},
            {0, 1, 7, 0}, {0, 1, -1, 0}, {0, 1, MAX, 0}, {0, 1, 1, 3}, {0, 1, 1, -1}, {MIN, 1, 1, 0}, {0, 1, 7, 1}};
        for (int[] b : bad) {
            DUE.is("quarrel(" + b[0] + ", " + b[1] + ", " + b[2] + ", " + b[3] + ")", x.quarrel(b[0], b[1], b[2], b[3]), -1);
        }
    }

    private static void promise29() {
        DUE.part("promise 29");
        UnsaidWords x = Due.made(new int[] {1, 1}, 0);
        int[][] bad = {{2, 0}, {-2, 0}, {0, 10}, {0, -2}, {MIN, -1}, {MAX, 0}, {0, MAX}, {0, MIN}};
        for (int[] b : bad) {
            DUE.is("talk(" + b[0] + ", " + b[1] + ")", x.talk(b[0], b[1]), -1);
        }
        for (int i = 1; i <= 10; i++) {
            DUE.is("talk", x.talk(i % 2, i - 2), i);
        }
        DUE.is("there are ten", x.talk(0, 0), -1);
        DUE.is("look(11)", x.look(11), 10);
        DUE.is("none is then", x.talk(-1, -1), 0);
        DUE.is("look(11)", x.look(11), 0);
        DUE.is("all can have said nothing", x.spoke(true), 1);
        DUE.is("talk", x.talk(1, 9), 1);
        DUE.is("none is then", x.talk(-1, 0), 0);
        for (int place : new int[] {499, 10, -2, MIN, MAX}) {
            DUE.is("talk", x.talk(0, 9), 1);
            DUE.is("none is then, the place is not asked", x.talk(-1, place), 0);
            DUE.is("look(11)", x.look(11), 0);
        }
        DUE.is("none can be before a WORD is", new UnsaidWords().talk(-1, 499), 0);
    }

    private static void promise30() {
        DUE.part("promise 30");
        UnsaidWords x = new UnsaidWords();
        DUE.is("nobody", x.spoke(true), 0);
        x.person(0);
        x.person(0);
        DUE.is("all", x.spoke(true), 3);
        DUE.is("no WORDS", x.spoke(false), -1);
        x = Due.made(new int[] {1, 1, 1, 1}, 0, 0, 1, 1, 2);
        DUE.is("nobody has one: the least", x.spoke(false), 0);
        Due.teach(x, 15, 13, 9, 1, 1);
        DUE.is("all", x.spoke(true), 31);
        DUE.is("two of five", x.spoke(false), 2);
        x.talk(0, -1);
        DUE.is("all have it", x.spoke(true), 31);
        x.talk(3, -1);
        DUE.is("WHO", x.spoke(true), 7);
        DUE.is("one of three, two of three", x.spoke(false), 1);
        x.talk(0, 0);
        DUE.is("at a PLACE", x.spoke(true), 3);
        DUE.is("one of two", x.spoke(false), 1);
        x.talk(2, 0);
        DUE.is("WHO", x.spoke(true), 3);
        x.move(1, 3);
        DUE.is("AT now", x.spoke(true), 1);
        DUE.is("fewer than two", x.spoke(false), -1);
        x.talk(-1, -1);
        x.talk(3, -1);
        x.talk(0, -1);
        DUE.is("all of it", x.spoke(true), 7);
        x.talk(2, 0);
        x.talk(1, 3);
        DUE.is("nobody", x.spoke(true), 0);
        DUE.is("nobody", x.spoke(false), -1);
        x.talk(-1, -1);
        Due.lapse(x, 1);
        DUE.is("a LAPSED one is in no TONGUE", x.spoke(false), 2);
        x.talk(0, -1);
        DUE.is("nobody", x.spoke(true), 0);
    }

    /** Chains of one WORD each: 0 and 1 by word 0, 1 and 2 by words 1 2, 3 and 4 by word 3. */
    private static UnsaidWords chain() {
        UnsaidWords x = Due.made(new int[] {1, 2, 3, 4, 5}, 0, 1, 2, 3, 4, 5);
        Due.teach(x, 1, 7, 6, 8, 24, 2);
        tell(x, 0, "means 0 or 4;means 1 2 or 0;means 3;means 2 1;");
        return x;
    }

    private static void promise31() {
        DUE.part("promise 31");
        UnsaidWords x = chain();
        int[][] want = {{2, 2, 0, 0, 0, 0}, {2, 3, 2, 0, 0, 0}, {0, 2, 2, 0, 0, 0}, {0, 0, 0, 1, 1, 0}, {0, 0, 0, 1, 2, 0}, {0, 0, 0, 0, 0, 0}};
        for (int a = 0; a < 6; a++) {
            for (int b = 0; b < 6; b++) {
                DUE.is("grasps(" + a + ", " + b + ")", x.grasps(a, b), want[a][b]);
            }
        }
        for (int bad : new int[] {-1, 6, 10, MIN, MAX}) {
            DUE.is("grasps(0, " + bad + ")", x.grasps(0, bad), -1);
            DUE.is("grasps(" + bad + ", 0)", x.grasps(bad, 0), -1);
        }
        tell(x, 0, "");
        DUE.is("no MEANINGS", x.grasps(0, 0), 0);
    }

    private static void promise32() {
        DUE.part("promise 32");
        UnsaidWords x = chain();
        int[] want = {7, 7, 7, 24, 24, 32};
        for (int p = 0; p < 6; p++) {
            DUE.is("circle(" + p + ")", x.circle(p), want[p]);
        }
        for (int bad : new int[] {-1, 6, 10, MIN, MAX}) {
            DUE.is("circle(" + bad + ")", x.circle(bad), -1);
        }
        UnsaidWords y = new UnsaidWords();
        for (int i = 0; i < 10; i++) {
            y.word(1);
            y.person(i);
        }
        StringBuilder text = new StringBuilder();
        for (int i = 0; i < 9; i++) {
            y.teach(9 - i, i);
            y.teach(8 - i, i);
            text.append("means ").append(i).append(';');
        }
        tell(y, 0, text.toString());
        DUE.is("a long chain", y.circle(9), 1023);
        DUE.is("a long chain", y.circle(0), 1023);
    }

    private static void promise33() {
        DUE.part("promise 33");
        UnsaidWords x = new UnsaidWords();
        DUE.is("nobody chats", x.odds(60, 9), 0);
        x.set(0, 0, 1);
        DUE.is("odds(1, 1)", x.odds(1, 1), 1000);
        DUE.is("odds(1, 2)", x.odds(1, 2), 1999);
        DUE.is("999000, 998001, 997002 downwards", x.odds(3, 1), 2998);
        DUE.is("k times n times", x.odds(1, 3), 2998);
        DUE.is("nobody", x.odds(60, 0), 0);
        long left = 1000000;
        for (int i = 0; i < 540; i++) {
            left = left * 999 / 1000;
        }
        DUE.is("odds(60, 9)", x.odds(60, 9), 1000000 - left);
        x.set(0, 0, 999);
        DUE.is("odds(1, 2)", x.odds(1, 2), 999999);
        DUE.is("odds(1, 3)", x.odds(3, 1), 1000000);
        x.set(0, 0, 1000);
        DUE.is("odds(1, 1)", x.odds(1, 1), 1000000);
        for (int bad : new int[] {0, -1, 61, MIN, MAX}) {
            DUE.is("odds(" + bad + ", 1)", x.odds(bad, 1), -1);
        }
        for (int bad : new int[] {-1, 10, MIN, MAX}) {
            DUE.is("odds(1, " + bad + ")", x.odds(1, bad), -1);
        }
    }

    private static void school(UnsaidWords x, int person, int many, int set) {
        DUE.is("school(" + person + ", 0)", x.school(person, 0), many);
        DUE.is("school(" + person + ", 1)", x.school(person, 1), set);
    }

    private static void promise34() {
        DUE.part("promise 34");
        UnsaidWords x = Due.made(new int[] {1, 1, 1, 1, 1, 1}, 0, 0, 0);
        Due.teach(x, 0, 2, 63);
        school(x, 0, 0, 0);
        tell(x, 0, "means 0 1 or 4;means 1 2 or 3;means 5 or 1;");
        school(x, 0, 3, 7);
        school(x, 1, 2, 5);
        school(x, 2, 0, 0);
        tell(x, 0, "means 5 or 4;means 4 or 3;means 3 or 5;");
        school(x, 0, 2, 24);
        Due.lapse(x, 8);
        school(x, 0, 2, 48);
        tell(x, 0, "means 3;means 3 0 or 2 2;");
        school(x, 0, 1, 4);
        school(x, 1, 1, 4);
        for (int bad : new int[] {-1, 2, MIN, MAX}) {
            DUE.is("school(0, " + bad + ")", x.school(0, bad), -1);
        }
        for (int bad : new int[] {-1, 3, MIN, MAX}) {
            DUE.is("school(" + bad + ", 0)", x.school(bad, 0), -1);
        }
    }

    private static void verse(UnsaidWords x, int lasting, int set) {
        DUE.is("verse(0)", x.verse(0), lasting);
        DUE.is("verse(1)", x.verse(1), set);
    }

    private static void promise35() {
        DUE.part("promise 35");
        verse(new UnsaidWords(), 0, 0);
        verse(Due.made(new int[] {1}), 1, 1);
        UnsaidWords x = Due.made(new int[] {4, 9, 5, 4, 2});
        verse(x, 24, 31);
        x.kin(0, 1, true);
        verse(x, 20, 30);
        x.kin(1, 2, true);
        verse(x, 15, 26);
        x.kin(1, 4, true);
        verse(x, 15, 29);
        x.kin(1, 3, true);
        x.kin(0, 2, true);
        verse(x, 11, 28);
        x.kin(3, 2, true);
        x.kin(3, 4, true);
        verse(x, 9, 2);
        Due.lapse(x, 2);
        verse(x, 8, 9);
        Due.lapse(x, 29);
        verse(x, 0, 0);
        for (int bad : new int[] {-1, 2, MIN, MAX}) {
            DUE.is("verse(" + bad + ")", x.verse(bad), -1);
        }
    }

    private static void boast(UnsaidWords x, int person, int lasting, int meaning) {
        DUE.is("boast(" + person + ", 0)", x.boast(person, 0), lasting);
        DUE.is("boast(" + person + ", 1)", x.boast(person, 1), meaning);
    }

    private static void promise36() {
        DUE.part("promise 36");
        UnsaidWords x = Due.made(new int[] {3, 4, 10, 1}, 0, 0, 0, 0);
        Due.teach(x, 3, 7, 8, 4);
        boast(x, 0, -1, -1);
        tell(x, 0, "means 0 or 0 0 0 or 2;means 1 or 2;means 0 0 0;means 1 1 1 or 2 3 3;");
        boast(x, 0, 12, 3);
        boast(x, 1, 12, 3);
        boast(x, 2, -1, -1);
        boast(x, 3, 10, 0);
        tell(x, 0, "means 3;means 0 1 or 1;means 1 0;");
        boast(x, 0, 7, 1);
        for (int bad : new int[] {-1, 2, MIN, MAX}) {
            DUE.is("boast(0, " + bad + ")", x.boast(0, bad), -1);
        }
        for (int bad : new int[] {-1, 4, MIN, MAX}) {
            DUE.is("boast(" + bad + ", 0)", x.boast(bad, 0), -1);
        }
    }

    private static void crowd(UnsaidWords x, int place, int many, int words) {
        DUE.is("crowd(0)", x.crowd(0), place);
        DUE.is("crowd(1)", x.crowd(1), many);
        DUE.is("crowd(2)", x.crowd(2), words);
    }

    private static void promise37() {
        DUE.part("promise 37");
        UnsaidWords x = Due.made(new int[] {1, 1, 1, 1});
        crowd(x, 0, 0, 0);
        x.person(7);
        crowd(x, 7, 1, 0);
        x.person(9);
        x.person(9);
        Due.teach(x, 15, 7, 14);
        crowd(x, 9, 2, 2);
        x.person(7);
        crowd(x, 7, 2, 0);
        x.teach(3, 0);
        crowd(x, 7, 2, 1);
        x.move(0, 9);
        crowd(x, 9, 3, 2);
        crowd(Due.made(new int[] {1}, 0, 1, 0), 0, 2, 0);
        for (int bad : new int[] {-1, 3, MIN, MAX}) {
            DUE.is("crowd(" + bad + ")", x.crowd(bad), -1);
        }
    }

    private static void silence(UnsaidWords x, int word, int left) {
        DUE.is("silence(0)", x.silence(0), word);
        DUE.is("silence(1)", x.silence(1), left);
    }

    private static void promise38() {
        DUE.part("promise 38");
        silence(new UnsaidWords(), -1, -1);
        UnsaidWords x = Due.made(new int[] {1, 1, 1});
        silence(x, -1, -1);
        x.set(2, 1, 5);
        silence(x, 1, 0);
        x.set(2, 0, 5);
        silence(x, -1, -1);
        x.set(2, 2, 8);
        silence(x, -1, -1);
        x.set(2, 2, 15);
        silence(x, 0, 2);
        x.set(2, 0, 3);
        x.set(2, 1, 4);
        silence(x, -1, -1);
        x.set(2, 1, 6);
        silence(x, 0, 1);
        x.set(2, 0, 2);
        x.set(2, 1, 3);
        x.set(2, 2, 3);
        silence(x, 0, 0);
        x.set(2, 0, 6);
        x.set(2, 1, 7);
        x.set(2, 2, 7);
        silence(x, 0, 0);
        x.set(2, 2, 4);
        silence(x, 0, 3);
        Due.lapse(x, 1);
        x.set(2, 1, 7);
        x.set(2, 2, 4);
        silence(x, 1, 4);
        for (int bad : new int[] {-1, 2, MIN, MAX}) {
            DUE.is("silence(" + bad + ")", x.silence(bad), -1);
        }
    }
}
