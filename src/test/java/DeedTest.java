/** Promises 8 to 12, 39 and 40: what is done, what days bring, and what is undone. */
public final class DeedTest {
    private static final Due DUE = new Due("DeedTest");
    private static final int MIN = Integer.MIN_VALUE;
    private static final int MAX = Integer.MAX_VALUE;

    public static void main(String[] args) {
        promise8();
        saidByLaw();
        spreads();
        promise9();
        promise10();
        promise11();
        promise12();
        walks();
        chat();
        chatBelow();
        lapses();
        bookIsFull();
        promise39();
        sixAreKept();
        whatForgets();
        promise40();
        DUE.close();
    }

    private static int tell(UnsaidWords x, int k, String text) {
        return Due.tell(x, k, text);
    }

    private static void line(UnsaidWords x, int i, int day, int what, int who, int which) {
        int[] want = {day, what, who, which};
        for (int c = 0; c < 4; c++) {
            DUE.is("book(" + i + ", " + c + ")", x.book(i, c), want[c]);
        }
    }

    private static void promise8() {
        DUE.part("promise 8");
        UnsaidWords x = Due.made(new int[] {3, 4, 20}, 0, 0, 0, 1);
        Due.teach(x, 7, 1, 1, 1);
        int lines = x.look(5);
        int[][] bad = {{1, 1}, {4, 0}, {-1, 0}, {0, 3}, {0, -1}, {MAX, 0}, {0, MIN}};
        for (int[] b : bad) {
            DUE.is("say(" + b[0] + ", " + b[1] + ")", x.say(b[0], b[1]), -1);
        }
        DUE.is("nothing is done: look(5)", x.look(5), lines);
        x.set(2, 0, 9);
        x.set(2, 1, 9);
        DUE.is("two others have it", x.say(0, 0), 1);
        DUE.is("UNSAID", x.of(0, 1), 0);
        DUE.is("SAID", x.of(0, 3), 1);
        DUE.is("BREATH", x.who(0, 2), 47);
        DUE.is("BREATH of another", x.who(1, 2), 50);
        line(x, lines, 0, 0, 0, 0);
        DUE.is("nobody else has it", x.say(0, 1), 0);
        DUE.is("UNSAID", x.of(1, 1), 9);
        DUE.is("SAID", x.of(1, 3), 0);
        DUE.is("BREATH", x.who(0, 2), 43);
        DUE.is("not HEARD, not had", x.who(1, 1), 1);
        line(x, lines + 1, 0, 1, 0, 1);
        DUE.is("one who has it is elsewhere", x.say(3, 0), 0);
        DUE.is("SAID again", x.say(0, 0), 1);
        DUE.is("SAID", x.of(0, 3), 2);
        DUE.is("look(12)", x.look(12), 4);
        x.set(1, 0, 20);
        DUE.is("BREATH is enough", x.say(0, 2), 0);
        DUE.is("BREATH", x.who(0, 2), 0);
        x.set(1, 0, 19);
        DUE.is("BREATH is not enough", x.say(0, 2), -1);
        DUE.is("BREATH", x.who(0, 2), 19);
        DUE.is("look(12)", x.look(12), 0);
        Due.lapse(x, 1);
        DUE.is("LAPSED", x.say(1, 0), -1);
    }

    private static void saidByLaw() {
        DUE.part("promise 8, THE LAW");
        UnsaidWords x = Due.made(new int[] {5, 6}, 3, 3, 3, 4);
        Due.teach(x, 3, 1, 0, 1);
        tell(x, 1, "hear knows when word=1;hear 0 when at=4;hear 1;tire said*10+2 when at=3;tire 50-unsaid;");
        DUE.is("one other is enough", x.say(0, 0), 1);
        DUE.is("tire asked ahead", x.who(0, 2), 48);
        DUE.is("he has it then", x.who(2, 1), 1);
        DUE.is("said once", x.say(0, 0), 1);
        DUE.is("tire by SAID", x.who(0, 2), 36);
        DUE.is("who says it is no other", x.say(0, 1), 0);
        DUE.is("nobody needed", x.say(3, 0), 1);
        DUE.is("tire by UNSAID", x.who(3, 2), 0);
        x.set(2, 0, 1);
        DUE.is("too tired", x.say(3, 0), -1);
        x.set(2, 0, 50);
        DUE.is("tire 0", x.say(3, 0), 1);
        x.set(2, 0, 60);
        DUE.is("tire held to 0", x.say(3, 0), 1);
        DUE.is("BREATH", x.who(3, 2), 0);
    }

    private static void spreads() {
        DUE.part("promise 8, HEARD");
        UnsaidWords x = Due.made(new int[] {1, 1, 1, 1, 1, 1}, 2, 2, 2, 2, 7);
        Due.teach(x, 1, 1, 1, 0, 0);
        x.kin(0, 1, true);
        x.kin(0, 2, true);
        x.kin(3, 0, true);
        x.kin(1, 5, true);
        Due.lapse(x, 8);
        for (int w = 0; w < 6; w++) {
            x.set(2, w, 10 + w);
        }
        DUE.is("say", x.say(1, 0), 1);
        int[] unsaid = {0, 5, 6, 13, 14, 15};
        for (int w = 0; w < 6; w++) {
            DUE.is("UNSAID of " + w, x.of(w, 1), unsaid[w]);
        }
        DUE.is("in whose TONGUES", x.of(0, 6), 15);
        DUE.is("of a KIN one", x.of(1, 6), 0);
        DUE.is("SAID of a KIN one", x.of(1, 3), 0);
        DUE.is("say", x.say(1, 0), 1);
        DUE.is("half downwards", x.of(1, 1), 2);
        x.set(2, 1, 1);
        x.say(1, 0);
        DUE.is("half of 1", x.of(1, 1), 0);
        UnsaidWords y = Due.made(new int[] {1, 1}, 2, 2, 2, 2);
        Due.teach(y, 0, 2, 2, 2);
        y.kin(0, 1, true);
        y.set(2, 0, 8);
        DUE.is("say", y.say(3, 1), 1);
        DUE.is("UNSAID of WORD 0", y.of(0, 1), 4);
        DUE.is("TONGUE of PERSON 0", y.who(0, 1), 2);
    }

    private static void promise9() {
        DUE.part("promise 9");
        UnsaidWords x = Due.made(new int[] {3}, 0, 5);
        int[][] bad = {{0, 0}, {1, 5}, {2, 1}, {-1, 1}, {0, 10}, {0, -1}, {MAX, 1}, {0, MIN}};
        for (int[] b : bad) {
            DUE.is("move(" + b[0] + ", " + b[1] + ")", x.move(b[0], b[1]), false);
        }
        DUE.is("nothing is done: look(12)", x.look(12), 0);
        DUE.is("look(5)", x.look(5), 0);
        DUE.is("move", x.move(1, 9), true);
        DUE.is("who(1, 0)", x.who(1, 0), 9);
        DUE.is("who(0, 0)", x.who(0, 0), 0);
        line(x, 0, 0, 3, 1, 9);
        x.days(2);
        DUE.is("back", x.move(1, 0), true);
        line(x, 1, 2, 3, 1, 0);
        DUE.is("BREATH", x.who(1, 2), 60);
        DUE.is("look(12)", x.look(12), 4);
    }

    private static void promise10() {
        DUE.part("promise 10");
        UnsaidWords x = Due.made(new int[] {3, 4}, 0, 5);
        x.set(2, 1, 7);
        int[][] bad = {{2, 0}, {-1, 0}, {0, 2}, {0, -1}, {MIN, 0}, {0, MAX}};
        for (int[] b : bad) {
            DUE.is("teach(" + b[0] + ", " + b[1] + ")", x.teach(b[0], b[1]), false);
        }
        DUE.is("teach", x.teach(1, 1), true);
        line(x, 0, 0, 4, 1, 1);
        DUE.is("he has it", x.teach(1, 1), false);
        DUE.is("look(5)", x.look(5), 1);
        DUE.is("look(12)", x.look(12), 1);
        DUE.is("TONGUE", x.who(1, 1), 2);
        DUE.is("TONGUE", x.who(0, 1), 0);
        DUE.is("UNSAID as it was", x.of(1, 1), 7);
        DUE.is("another", x.teach(1, 0), true);
        DUE.is("TONGUE", x.who(1, 1), 3);
        Due.lapse(x, 1);
        DUE.is("LAPSED", x.teach(0, 0), false);
        DUE.is("TONGUE", x.who(1, 1), 2);
    }

    private static void promise11() {
        DUE.part("promise 11");
        UnsaidWords x = Due.made(new int[] {3, 4}, 0, 0, 0);
        Due.teach(x, 3, 3, 3);
        x.say(0, 1);
        Due.lapse(x, 2);
        int lines = x.look(5);
        for (int bad : new int[] {0, 2, -1, MAX, MIN}) {
            DUE.is("carve(" + bad + ")", x.carve(bad), false);
        }
        DUE.is("look(5)", x.look(5), lines);
        DUE.is("look(4)", x.look(4), 2);
        DUE.is("UNSAID", x.of(1, 1), 1);
        x.set(0, 0, 0);
        DUE.is("carve", x.carve(1), true);
        line(x, lines, 1, 5, -1, 1);
        DUE.is("look(4)", x.look(4), 0);
        DUE.is("UNSAID", x.of(1, 1), 0);
        DUE.is("in no TONGUE", x.of(1, 6), 0);
        DUE.is("SAID", x.of(1, 3), 1);
        DUE.is("not LAPSED any more", x.carve(1), false);
        DUE.is("look(12)", x.look(12), 1);
        DUE.is("it can be taught", x.teach(0, 1), true);
    }

    private static void promise12() {
        DUE.part("promise 12");
        UnsaidWords x = Due.made(new int[] {3, 4, 5}, 0, 0);
        for (int bad : new int[] {0, -1, 61, MIN, MAX}) {
            DUE.is("days(" + bad + ")", x.days(bad), -1);
        }
        DUE.is("look(2)", x.look(2), 0);
        DUE.is("look(12)", x.look(12), 0);
        x.set(1, 0, 91);
        DUE.is("days(1)", x.days(1), 0);
        DUE.is("look(2)", x.look(2), 1);
        DUE.is("UNSAID", x.of(0, 1), 1);
        DUE.is("BREATH", x.who(0, 2), 96);
        DUE.is("BREATH", x.who(1, 2), 55);
        x.days(1);
        DUE.is("99 at most", x.who(0, 2), 99);
        DUE.is("days(60)", x.days(60), 0);
        DUE.is("look(2)", x.look(2), 62);
        DUE.is("STATE, nobody chats", x.look(6), 0);
        x.set(2, 0, 363);
        x.set(2, 2, 360);
        DUE.is("365 are kept less", x.days(1), 0);
        DUE.is("two LAPSE in these", x.days(5), 2);
        DUE.is("look(4)", x.look(4), 5);
        for (int i = 0; i < 165; i++) {
            x.days(60);
        }
        DUE.is("look(2)", x.look(2), 9968);
        DUE.is("above 9999", x.days(32), -1);
        DUE.is("above 9999", x.days(60), -1);
        DUE.is("look(2)", x.look(2), 9968);
        DUE.is("to 9999", x.days(31), 0);
        DUE.is("look(2)", x.look(2), 9999);
        DUE.is("above 9999", x.days(1), -1);
    }

    private static void walks() {
        DUE.part("promise 12, WALKS");
        UnsaidWords x = Due.made(new int[] {3, 4}, 0, 1, 2);
        Due.teach(x, 1, 1, 3);
        int lines = x.look(5);
        tell(x, 1, "hear 1;");
        tell(x, 2, "on 1 2 says 1;on 0 0 goes 1;on 0 0 says 0;on 0 1 goes 1;on 0 1 says 1;on 0 2 rests;"
                + "on 0 2 rests;on 0 2 rests;on 0 2 says 1;on 0 0 goes 3;on 2 0 rests;");
        DUE.is("days(1)", x.days(1), 0);
        line(x, lines, 0, 3, 0, 1);
        line(x, lines + 1, 0, 0, 0, 0);
        line(x, lines + 2, 0, 1, 2, 1);
        line(x, lines + 3, 0, 3, 0, 3);
        DUE.is("no more lines", x.look(5), lines + 4);
        DUE.is("a DAY is one to undo", x.look(12), 1);
        DUE.is("BREATH", x.who(0, 2), 52);
        DUE.is("BREATH, rested to 99", x.who(2, 2), 99);
        DUE.is("UNSAID", x.of(0, 1), 1);
        DUE.is("SAID", x.of(0, 3), 1);
        x.set(1, 0, 10);
        x.set(1, 2, 3);
        DUE.is("he can't", x.days(1), 0);
        DUE.is("no line", x.look(5), lines + 4);
        DUE.is("BREATH", x.who(2, 2), 8);
        x.days(1);
        DUE.is("rests and the night", x.who(0, 2), 40);
        x.days(3);
        DUE.is("told for no later DAY", x.look(5), lines + 4);
    }

    /** Draws as the Terms tell them, by longs. */
    private static long drawn(long state) {
        return state * 1664525L + 1013904223L & 0xFFFFFFFFL;
    }

    private static void chat() {
        DUE.part("promise 12, CHAT");
        UnsaidWords x = Due.made(new int[] {1, 1, 1}, 0, 0, 1, 2);
        Due.teach(x, 7, 6, 0, 5);
        int lines = x.look(5);
        x.set(2, 1, 4);
        x.set(2, 2, 4);
        x.set(0, 0, 500);
        x.state(-12345);
        long state = -12345L & 0xFFFFFFFFL;
        int due = lines;
        int[] longest = {1, 1, -1, 2};
        for (int day = 0; day < 6; day++) {
            boolean[] says = new boolean[4];
            for (int p = 0; p < 4; p++) {
                state = drawn(state);
                says[p] = (state >> 8) % 1000 < 500;
            }
            x.days(1);
            DUE.is("STATE", x.look(6), (int) state);
            for (int p = 0; p < 4; p++) {
                if (says[p] && p != 2) {
                    DUE.is("who", x.book(due, 2), p);
                    DUE.is("not HEARD", x.book(due, 1), 1);
                    DUE.is("which", x.book(due, 3), longest[p]);
                    due++;
                }
            }
        }
        DUE.is("lines", x.look(5), due);
        DUE.is("somebody spoke", due > lines + 5, true);
        x.set(0, 0, 0);
        int before = x.look(6);
        x.days(2);
        DUE.is("no DRAWS without CHAT", x.look(6), before);
        x.set(0, 0, 1000);
        x.set(1, 0, 0);
        x.set(1, 3, 0);
        x.days(1);
        DUE.is("one who has no BREATH says nothing", x.look(5), due + 1);
        DUE.is("all draw", x.look(6), (int) drawn(drawn(drawn(drawn(before)))));
        DUE.is("he who says it", x.book(due, 2), 1);
    }

    private static void chatBelow() {
        DUE.part("promise 12, below CHAT");
        UnsaidWords x = Due.made(new int[] {1, 1}, 0);
        Due.teach(x, 3);
        int state = 0;
        while ((drawn(state & 0xFFFFFFFFL) >> 8) % 1000 != 500) {
            state++;
        }
        x.set(0, 0, 500);
        x.state(state);
        x.days(1);
        DUE.is("a DRAW of CHAT: nothing", x.look(5), 2);
        x.set(0, 0, 501);
        x.state(state);
        x.days(1);
        DUE.is("below CHAT: WORD 0, of several the least", x.book(2, 3), 0);
    }

    private static void lapses() {
        DUE.part("promise 12, LAPSED");
        UnsaidWords x = Due.made(new int[] {1, 1, 1}, 0, 0);
        Due.teach(x, 7, 2);
        int lines = x.look(5);
        x.kin(0, 1, true);
        x.kin(1, 2, true);
        tell(x, 1, "keep 2 when word=1;keep 2 when kin=0;keep 50;");
        DUE.is("days(1)", x.days(1), 0);
        DUE.is("0 is asked ahead of 1, 2 behind it", x.days(1), 2);
        DUE.is("look(4)", x.look(4), 6);
        line(x, lines, 1, 2, -1, 1);
        line(x, lines + 1, 1, 2, -1, 2);
        DUE.is("TONGUE", x.who(0, 1), 1);
        DUE.is("TONGUE", x.who(1, 1), 0);
        DUE.is("UNSAID stays", x.of(1, 1), 2);
        DUE.is("then 0", x.days(1), 1);
        DUE.is("UNSAID stays", x.of(1, 1), 2);
        line(x, lines + 2, 2, 2, -1, 0);
        UnsaidWords y = Due.made(new int[] {1, 1});
        tell(y, 1, "keep 9 when unsaid=3;keep 3;");
        DUE.is("keep is asked with UNSAID of then", y.days(3), 0);
        DUE.is("above keep", y.days(1), 2);
        DUE.is("UNSAID", y.of(0, 1), 4);
        UnsaidWords z = Due.made(new int[] {1});
        tell(z, 1, "keep 9999 when day<2;keep 0-7;");
        DUE.is("keep is held to 1", z.days(3), 1);
        UnsaidWords v = Due.made(new int[] {1});
        tell(v, 1, "keep 9999*9;");
        v.set(2, 0, 9998);
        DUE.is("keep is held to 9999", v.days(1), 1);
    }

    private static void bookIsFull() {
        DUE.part("promise 12, THE BOOK");
        UnsaidWords x = Due.made(new int[] {1}, 0);
        for (int i = 0; i < 149; i++) {
            x.move(0, 1 + i % 2);
        }
        DUE.is("look(5)", x.look(5), 149);
        x.move(0, 9);
        DUE.is("look(5)", x.look(5), 150);
        DUE.is("move", x.move(0, 8), true);
        DUE.is("teach", x.teach(0, 0), true);
        DUE.is("say", x.say(0, 0), 0);
        DUE.is("look(5)", x.look(5), 150);
        line(x, 149, 0, 3, 0, 9);
        DUE.is("book(150, 0)", x.book(150, 0), -2);
        for (int i = 0; i < 3; i++) {
            x.undo();
        }
        DUE.is("look(5)", x.look(5), 150);
        DUE.is("undo", x.undo(), true);
        DUE.is("look(5)", x.look(5), 149);
    }

    private static void promise39() {
        DUE.part("promise 39");
        UnsaidWords x = Due.made(new int[] {3, 4, 5}, 0, 0, 0);
        DUE.is("nothing", x.undo(), false);
        Due.teach(x, 3, 3, 3);
        x.kin(0, 1, true);
        x.set(2, 0, 7);
        x.set(2, 1, 9);
        int lines = x.look(5);
        x.set(0, 0, 300);
        x.say(0, 0);
        tell(x, 1, "keep 1 when word=1;hear 9;tire 0;");
        int state = x.look(6);
        x.days(1);
        DUE.is("it LAPSED", x.look(4), 2);
        DUE.is("it drew", x.look(6) != state, true);
        x.carve(1);
        x.move(2, 7);
        x.teach(2, 2);
        DUE.is("look(12)", x.look(12), 5);
        DUE.is("the TEACHING", x.undo(), true);
        DUE.is("TONGUE", x.who(2, 1), 1);
        DUE.is("the MOVE", x.undo(), true);
        DUE.is("AT", x.who(2, 0), 0);
        DUE.is("the CARVING", x.undo(), true);
        DUE.is("look(4)", x.look(4), 2);
        DUE.is("look(2)", x.look(2), 1);
        DUE.is("the DAY", x.undo(), true);
        DUE.is("look(2)", x.look(2), 0);
        DUE.is("look(4)", x.look(4), 0);
        DUE.is("STATE", x.look(6), state);
        DUE.is("TONGUE", x.who(2, 1), 3);
        DUE.is("BREATH", x.who(1, 2), 50);
        DUE.is("UNSAID", x.of(1, 1), 4);
        DUE.is("SAID", x.of(0, 3), 1);
        DUE.is("look(5)", x.look(5), lines + 1);
        DUE.is("the SAYING", x.undo(), true);
        DUE.is("SAID", x.of(0, 3), 0);
        DUE.is("UNSAID", x.of(0, 1), 7);
        DUE.is("UNSAID of a KIN one", x.of(1, 1), 9);
        DUE.is("BREATH", x.who(0, 2), 50);
        DUE.is("look(5)", x.look(5), lines);
        DUE.is("nothing more", x.undo(), false);
        DUE.is("THE LAW stays", x.look(8), 3);
        DUE.is("CHAT stays", x.look(3), 300);
    }

    private static void sixAreKept() {
        DUE.part("promise 39, six are kept");
        UnsaidWords x = Due.made(new int[] {3}, 0);
        for (int i = 1; i <= 9; i++) {
            x.move(0, i);
            DUE.is("look(12)", x.look(12), Math.min(6, i));
        }
        for (int i = 8; i >= 6; i--) {
            DUE.is("undo", x.undo(), true);
            DUE.is("AT", x.who(0, 0), i);
        }
        DUE.is("look(12)", x.look(12), 3);
        x.days(2);
        DUE.is("look(12)", x.look(12), 5);
        DUE.is("a DAY", x.undo(), true);
        DUE.is("look(2)", x.look(2), 1);
        DUE.is("a DAY", x.undo(), true);
        DUE.is("look(2)", x.look(2), 0);
        for (int i = 5; i >= 3; i--) {
            DUE.is("undo", x.undo(), true);
            DUE.is("AT", x.who(0, 0), i);
        }
        DUE.is("undo", x.undo(), false);
        DUE.is("AT", x.who(0, 0), 3);
        x.days(60);
        DUE.is("look(12)", x.look(12), 6);
        for (int i = 0; i < 6; i++) {
            x.undo();
        }
        DUE.is("look(2)", x.look(2), 54);
        DUE.is("undo", x.undo(), false);
    }

    private static void whatForgets() {
        DUE.part("promise 39, what forgets");
        UnsaidWords x = Due.made(new int[] {3, 4}, 0, 1);
        x.teach(0, 0);
        tell(x, 0, "means 0;");
        tell(x, 1, "hear 1;");
        tell(x, 3, "need 0 by 3 worth 4;");
        x.talk(0, 0);
        x.talk(-1, 0);
        x.image(true);
        x.feed(1, 2, 3, 4, 5);
        x.end(0);
        x.text(9);
        x.state(x.look(12) - 1);
        DUE.is("only STATE forgot", x.look(6), 0);
        DUE.is("look(12)", x.look(12), 0);
        x.move(0, 4);
        x.goes(400, 0);
        x.misses(0);
        x.say(9, 9);
        x.days(0);
        x.kin(0, 0, true);
        x.image(true);
        DUE.is("look(12)", x.look(12), 1);
        tell(x, 2, "");
        DUE.is("WALKS forget", x.look(12), 0);
        x.move(0, 5);
        x.image(false);
        DUE.is("THE IMAGE leaves nothing", x.look(12), 0);
        DUE.is("AT", x.who(0, 0), 4);
        DUE.is("undo", x.undo(), false);
    }

    private static void promise40() {
        DUE.part("promise 40");
        UnsaidWords x = Due.made(new int[] {3, 4, 5}, 0, 0, 1);
        DUE.is("none yet", x.image(false), false);
        Due.teach(x, 7, 3, 1);
        x.kin(0, 1, true);
        x.miles(0, 1, 77);
        x.miles(8, 9, 66);
        x.set(0, 0, 400);
        x.set(1, 1, 33);
        x.set(2, 2, 44);
        tell(x, 0, "means 0 2 or 1;means 2;");
        tell(x, 1, "keep 46;hear 1;");
        tell(x, 2, "on 3 0 rests;");
        tell(x, 3, "need 1 by 9 worth 8;");
        x.talk(1, 0);
        x.state(99);
        x.say(0, 0);
        x.move(2, 5);
        int lines = x.look(5);
        DUE.is("taken", x.image(true), true);
        DUE.is("what can be undone stays", x.look(12), 2);
        for (int round = 0; round < 2; round++) {
            otherwise(x, round);
            Due.tape(x, "means 0;");
            DUE.is("gone back", x.image(false), true);
            DUE.is("the TAPE is as it is", x.end(8) && !x.end(9), true);
            x.end(0);
            DUE.is("fault(0) is as it is", x.fault(0), 1);
            asTaken(x, lines);
        }
        x.word(9);
        x.image(true);
        x.person(9);
        x.image(false);
        DUE.is("taken anew: look(0)", x.look(0), 4);
        DUE.is("look(1)", x.look(1), 3);
        x.word(8);
        DUE.is("a new WORD is new", x.of(4, 1), 0);
    }

    /** Nearly all is told and done otherwise; the first time what was done ahead is undone, too. */
    private static void otherwise(UnsaidWords x, int round) {
        if (round == 0) {
            x.undo();
            x.undo();
        }
        x.teach(2, 2);
        x.teach(2, 1);
        x.word(11);
        x.person(7);
        x.kin(0, 1, false);
        x.kin(0, 2, true);
        x.miles(0, 1, 1);
        x.miles(8, 9, 1);
        x.set(0, 0, 900);
        x.set(1, 1, 1);
        x.set(2, 0, 1);
        tell(x, 0, "means 0;");
        tell(x, 2, "on 0 0 rests;on 0 0 rests;");
        tell(x, 3, "need 0 by 0 worth 1;need 0 by 0 worth 1;");
        tell(x, 1, "keep 1;");
        x.talk(0, 3);
        x.days(2);
        x.carve(0);
        x.text(1);
        tell(x, 2, "x");
    }

    private static void asTaken(UnsaidWords x, int lines) {
        int[] look = {3, 3, 0, 400, 0, lines, 99, 2, 2, 1, 1, 1, 0, 3};
        for (int what = 0; what < 14; what++) {
            DUE.is("look(" + what + ")", x.look(what), look[what]);
        }
        line(x, lines - 2, 0, 0, 0, 0);
        line(x, lines - 1, 0, 3, 2, 5);
        DUE.is("KIN", x.of(0, 4), 2);
        DUE.is("KIN", x.of(2, 4), 0);
        DUE.is("SAID", x.of(0, 3), 1);
        DUE.is("keep", x.of(0, 5), 46);
        DUE.is("UNSAID", x.of(2, 1), 44);
        DUE.is("in whose TONGUES", x.of(0, 6), 7);
        DUE.is("BREATH", x.who(1, 2), 33);
        DUE.is("AT", x.who(2, 0), 5);
        DUE.is("TONGUE", x.who(2, 1), 1);
        DUE.is("MILES", x.round(0, 2, 0), 77);
        DUE.is("MILES", x.round(0, 768, 0), 76);
        DUE.is("TALK", x.spoke(true), 3);
        DUE.is("MEANINGS", x.wording(0, 1), 1);
        DUE.is("WALKS, THE LAW", x.goes(2, 1), 2);
        DUE.is("NEEDS", x.misses(0), 0);
        DUE.is("word", x.of(3, 0), -1);
        DUE.is("person", x.who(3, 0), -1);
        DUE.is("undo", x.undo(), false);
    }
}
