/** The opening of Terms and Terms 1: what STATE, WORDS, PEOPLE, PLACES and days can be. */
final class EdgesOfWords {
    private static final int MIN = Integer.MIN_VALUE;
    private static final int MAX = Integer.MAX_VALUE;

    static void tell(Edges edges) {
        edges.in("What it is");
        edges.of("An object is used for at most 512 calls after it has been made", EdgesOfWords::calls);
        edges.in("Terms 0");
        edges.of("Quotients go downwards", EdgesOfWords::quotients);
        edges.of("STATE of draws (an int, 0 at first)", EdgesOfWords::state);
        edges.of("a DRAW of m: it becomes 1664525 times itself + 1013904223 (ints, which wrap)", EdgesOfWords::drawWraps);
        edges.of("then it is its highest 24 bits (without sign) modulo m", EdgesOfWords::drawIsHighest);
        edges.in("Terms 1");
        edges.of("WORDS 0 .. 13 as they come", EdgesOfWords::words);
        edges.of("LONG 1 .. 20", EdgesOfWords::longs);
        edges.of("UNSAID 0 .. 9999 (days; 0 at first)", EdgesOfWords::unsaid);
        edges.of("LAPSED 0, 1 (0 at first)", EdgesOfWords::lapsed);
        edges.of("SAID (how often, 0 at first)", EdgesOfWords::said);
        edges.of("KIN: two of them, or not (not at first)", EdgesOfWords::kin);
        edges.of("PEOPLE 0 .. 9 as they come", EdgesOfWords::people);
        edges.of("AT a PLACE 0 .. 9", EdgesOfWords::at);
        edges.of("TONGUE: WORDS (a set; none at first)", EdgesOfWords::tongue);
        edges.of("BREATH 0 .. 99 (50 at first)", EdgesOfWords::breath);
        edges.of("MILES between two PLACES 0 .. 99", EdgesOfWords::miles);
        edges.of("(10 at first; the same: 0)", EdgesOfWords::milesAtFirst);
        edges.of("both ways", EdgesOfWords::milesBothWays);
        edges.of("CHAT 0 .. 1000 (0 at first)", EdgesOfWords::chat);
        edges.of("DAY 0 .. 9999 (0 at first)", EdgesOfWords::day);
    }

    private static void calls(Due due) {
        UnsaidWords x = new UnsaidWords();
        for (int i = 0; i < 512; i++) {
            due.is("state, call " + (i + 1), x.state(i + 1), i);
        }
        UnsaidWords y = Due.made(new int[] {1, 1}, 0, 0);
        for (int i = 4; i < 512; i++) {
            boolean moves = i % 2 == 0;
            due.is("call " + (i + 1), moves ? y.move(0, 1 + i / 2 % 2) : y.undo(), true);
        }
    }

    private static void quotients(Due due) {
        UnsaidWords x = Due.made(new int[] {1, 1}, 0);
        Due.teach(x, 3);
        Due.tell(x, 1, "hear 0;tire 0;");
        x.kin(0, 1, true);
        int[] had = {0, 1, 2, 3, 7, 8, 9999};
        int[] half = {0, 0, 1, 1, 3, 4, 4999};
        for (int i = 0; i < had.length; i++) {
            x.set(2, 1, had[i]);
            due.is("say", x.say(0, 0), 1);
            due.is("half of " + had[i], x.of(1, 1), half[i]);
        }
        x.set(0, 0, 1);
        due.is("999000, 998001, 997002.999 are left: odds(3, 1)", x.odds(3, 1), 2998);
        due.is("997002, 996004.998 are left: odds(4, 1)", x.odds(4, 1), 3996);
    }

    private static void state(Due due) {
        UnsaidWords x = new UnsaidWords();
        due.is("STATE at first", x.look(6), 0);
        due.is("what it was", x.state(MIN), 0);
        due.is("look(6)", x.look(6), MIN);
        due.is("what it was", x.state(MAX), MIN);
        due.is("what it was", x.state(-1), MAX);
        due.is("what it was", x.state(0), -1);
        due.is("look(6)", x.look(6), 0);
    }

    /** What becomes of a STATE, by longs, of which the lowest 32 bits are kept. */
    private static long drawn(long state) {
        return (state & 0xFFFFFFFFL) * 1664525L + 1013904223L & 0xFFFFFFFFL;
    }

    private static void drawWraps(Due due) {
        for (int state : new int[] {0, 1, -1, MAX, MIN, 1013904223, 123456789, -987654321}) {
            UnsaidWords x = Due.made(new int[] {}, 0);
            x.set(0, 0, 500);
            x.state(state);
            x.days(1);
            due.is("one DRAW from " + state, x.look(6), (int) drawn(state));
            x.days(1);
            due.is("two DRAWS from " + state, x.look(6), (int) drawn(drawn(state)));
        }
        UnsaidWords x = Due.made(new int[] {}, 0);
        x.set(0, 0, 1);
        x.days(1);
        due.is("from 0", x.look(6), 1013904223);
        x.state(1);
        x.days(1);
        due.is("from 1", x.look(6), 1015568748);
        x.state(-1);
        x.days(1);
        due.is("from -1", x.look(6), 1012239698);
    }

    private static void drawIsHighest(Due due) {
        int negative = 0;
        for (int i = 0; i < 24; i++) {
            int state = i * 178956971;
            long now = drawn(state);
            int value = (int) ((now >> 8) % 1000);
            negative += (int) now < 0 ? 1 : 0;
            if (value > 0 && value < 1000) {
                due.is("the DRAW is not below it, from " + state, isSaidFrom(state, value), 0);
                due.is("the DRAW is below it, from " + state, isSaidFrom(state, value + 1), 1);
            }
        }
        due.is("some STATES are below 0, some not", negative > 3 && negative < 20, true);
    }

    /** How many WORDS one PERSON says on a DAY with that CHAT. */
    private static int isSaidFrom(int state, int chat) {
        UnsaidWords x = Due.made(new int[] {1}, 0);
        x.teach(0, 0);
        x.set(0, 0, chat);
        x.state(state);
        x.days(1);
        return x.look(5) - 1;
    }

    private static void words(Due due) {
        UnsaidWords x = new UnsaidWords();
        for (int i = 0; i < 14; i++) {
            due.is("WORD " + i + " ahead", x.of(i, 0), -1);
            due.is("word", x.word(i + 1), i);
            due.is("look(0)", x.look(0), i + 1);
        }
        due.is("WORD 14", x.word(5), -1);
        due.is("look(0)", x.look(0), 14);
        for (int i = 0; i < 14; i++) {
            due.is("LONG of WORD " + i, x.of(i, 0), i + 1);
        }
        due.is("WORD 14", x.of(14, 0), -1);
        due.is("WORD -1", x.of(-1, 0), -1);
    }

    private static void longs(Due due) {
        UnsaidWords x = new UnsaidWords();
        due.is("word(0)", x.word(0), -1);
        due.is("word(21)", x.word(21), -1);
        due.is("word(1)", x.word(1), 0);
        due.is("word(20)", x.word(20), 1);
        due.is("LONG", x.of(0, 0), 1);
        due.is("LONG", x.of(1, 0), 20);
        due.is("look(0)", x.look(0), 2);
    }

    private static void unsaid(Due due) {
        UnsaidWords x = Due.made(new int[] {3, 3});
        due.is("at first", x.of(0, 1), 0);
        x.days(1);
        due.is("a day", x.of(0, 1), 1);
        x.days(59);
        due.is("days", x.of(0, 1), 60);
        due.is("set to 9999", x.set(2, 0, 9999), true);
        due.is("of", x.of(0, 1), 9999);
        due.is("set to 10000", x.set(2, 0, 10000), false);
        due.is("set to -1", x.set(2, 0, -1), false);
        due.is("of", x.of(0, 1), 9999);
        due.is("of another", x.of(1, 1), 60);
        due.is("goes", x.goes(1, 0), 1);
        x.days(1);
        due.is("9999 stays", x.of(0, 1), 9999);
        Due.tell(x, 1, "tire 7 when unsaid=9999;tire 8;");
        due.is("for THE LAW, too", x.asks(0, 0, true), 7);
        due.is("set to 0", x.set(2, 0, 0), true);
        due.is("of", x.of(0, 1), 0);
        UnsaidWords y = Due.made(new int[] {3});
        Due.tell(y, 1, "keep 9999;");
        y.set(2, 0, 9997);
        due.is("9998 is not keep", y.days(1), 0);
        due.is("of", y.of(0, 1), 9998);
        due.is("9999 is", y.days(1), 1);
        due.is("of", y.of(0, 1), 9999);
    }

    private static void lapsed(Due due) {
        UnsaidWords x = Due.made(new int[] {3, 3});
        due.is("at first", x.of(0, 2), 0);
        due.is("at first", x.look(4), 0);
        Due.lapse(x, 2);
        due.is("of(0, 2)", x.of(0, 2), 0);
        due.is("of(1, 2)", x.of(1, 2), 1);
        x.carve(1);
        due.is("of(1, 2)", x.of(1, 2), 0);
    }

    private static void said(Due due) {
        UnsaidWords x = Due.made(new int[] {3, 3}, 0);
        Due.teach(x, 3);
        Due.tell(x, 1, "hear 0 when word=0;hear 1;tire 0;");
        due.is("at first", x.of(0, 3), 0);
        for (int i = 1; i <= 200; i++) {
            due.is("say", x.say(0, 0), 1);
            due.is("SAID", x.of(0, 3), i);
        }
        due.is("not HEARD", x.say(0, 1), 0);
        due.is("SAID of another", x.of(1, 3), 0);
    }

    private static void kin(Due due) {
        UnsaidWords x = Due.made(new int[] {3, 3, 3});
        for (int w = 0; w < 3; w++) {
            due.is("not at first", x.of(w, 4), 0);
        }
        due.is("kin(0, 1)", x.kin(0, 1, true), true);
        due.is("kin(1, 2)", x.kin(1, 2, true), true);
        due.is("of(0, 4)", x.of(0, 4), 2);
        due.is("of(1, 4)", x.of(1, 4), 5);
        due.is("of(2, 4)", x.of(2, 4), 2);
        due.is("kin(1, 0), not", x.kin(1, 0, false), true);
        due.is("of(0, 4)", x.of(0, 4), 0);
        due.is("of(1, 4)", x.of(1, 4), 4);
        due.is("two of them: kin(2, 2)", x.kin(2, 2, true), false);
        due.is("of(2, 4)", x.of(2, 4), 2);
        due.is("not, as it was", x.kin(0, 2, false), true);
        due.is("of(2, 4)", x.of(2, 4), 2);
    }

    private static void people(Due due) {
        UnsaidWords x = new UnsaidWords();
        for (int i = 0; i < 10; i++) {
            due.is("PERSON " + i + " ahead", x.who(i, 0), -1);
            due.is("person", x.person(9 - i), i);
            due.is("look(1)", x.look(1), i + 1);
        }
        due.is("PERSON 10", x.person(0), -1);
        due.is("look(1)", x.look(1), 10);
        for (int i = 0; i < 10; i++) {
            due.is("AT of PERSON " + i, x.who(i, 0), 9 - i);
        }
        due.is("PERSON 10", x.who(10, 0), -1);
        due.is("PERSON -1", x.who(-1, 0), -1);
    }

    private static void at(Due due) {
        UnsaidWords x = new UnsaidWords();
        due.is("person(-1)", x.person(-1), -1);
        due.is("person(10)", x.person(10), -1);
        due.is("person(0)", x.person(0), 0);
        due.is("person(9)", x.person(9), 1);
        due.is("who(0, 0)", x.who(0, 0), 0);
        due.is("who(1, 0)", x.who(1, 0), 9);
        due.is("move to 10", x.move(0, 10), false);
        due.is("move to -1", x.move(0, -1), false);
        due.is("move to 9", x.move(0, 9), true);
        due.is("move to 0", x.move(0, 0), true);
        due.is("who(0, 0)", x.who(0, 0), 0);
    }

    private static void tongue(Due due) {
        UnsaidWords x = new UnsaidWords();
        for (int i = 0; i < 14; i++) {
            x.word(1);
        }
        x.person(0);
        x.person(0);
        due.is("none at first", x.who(0, 1), 0);
        for (int i = 13; i >= 0; i--) {
            due.is("teach", x.teach(0, i), true);
            due.is("a set", x.who(0, 1), 16384 - (1 << i));
        }
        due.is("of another", x.who(1, 1), 0);
    }

    private static void breath(Due due) {
        UnsaidWords x = Due.made(new int[] {20}, 0, 0);
        due.is("at first", x.who(0, 2), 50);
        due.is("set to 100", x.set(1, 0, 100), false);
        due.is("set to -1", x.set(1, 0, -1), false);
        due.is("BREATH", x.who(0, 2), 50);
        due.is("set to 99", x.set(1, 0, 99), true);
        x.days(1);
        due.is("99 stays", x.who(0, 2), 99);
        due.is("of another", x.who(1, 2), 55);
        due.is("set to 0", x.set(1, 0, 0), true);
        due.is("BREATH", x.who(0, 2), 0);
        x.teach(0, 0);
        due.is("not below 0", x.say(0, 0), -1);
        due.is("BREATH", x.who(0, 2), 0);
    }

    private static void miles(Due due) {
        UnsaidWords x = Due.made(new int[] {}, 0);
        due.is("miles of 100", x.miles(0, 1, 100), false);
        due.is("miles of -1", x.miles(0, 1, -1), false);
        due.is("as it was", x.round(0, 2, 0), 10);
        due.is("miles of 99", x.miles(0, 1, 99), true);
        due.is("99", x.round(0, 2, 0), 99);
        due.is("miles of 0", x.miles(0, 1, 0), true);
        due.is("0", x.round(0, 2, 0), 0);
        due.is("from PLACE 9", x.miles(9, 0, 55), true);
        due.is("55", x.round(0, 512, 0), 55);
        due.is("no PLACE 10", x.miles(0, 10, 5), false);
        due.is("no PLACE -1", x.miles(-1, 0, 5), false);
    }

    private static void milesAtFirst(Due due) {
        for (int from = 0; from < 10; from++) {
            UnsaidWords x = Due.made(new int[] {}, from);
            for (int to = 0; to < 10; to++) {
                due.is("MILES " + from + ", " + to, x.round(0, 1 << to, 0), from == to ? 0 : 10);
            }
            due.is("the same is not told", x.miles(from, from, 5), false);
            due.is("the same", x.round(0, 1 << from, 0), 0);
        }
    }

    private static void milesBothWays(Due due) {
        UnsaidWords x = Due.made(new int[] {}, 2, 7);
        x.miles(2, 7, 33);
        due.is("2, 7", x.round(0, 128, 0), 33);
        due.is("7, 2", x.round(1, 4, 0), 33);
        x.miles(7, 2, 44);
        due.is("2, 7", x.round(0, 128, 0), 44);
        due.is("7, 2", x.round(1, 4, 0), 44);
        due.is("2, 6", x.round(0, 64, 0), 10);
    }

    private static void chat(Due due) {
        UnsaidWords x = new UnsaidWords();
        due.is("at first", x.look(3), 0);
        due.is("set to 1001", x.set(0, 0, 1001), false);
        due.is("set to -1", x.set(0, 0, -1), false);
        due.is("look(3)", x.look(3), 0);
        due.is("set to 1000", x.set(0, 0, 1000), true);
        due.is("look(3)", x.look(3), 1000);
        due.is("set to 0", x.set(0, 0, 0), true);
        due.is("look(3)", x.look(3), 0);
    }

    private static void day(Due due) {
        UnsaidWords x = new UnsaidWords();
        due.is("at first", x.look(2), 0);
        for (int i = 1; i <= 166; i++) {
            due.is("days(60)", x.days(60), 0);
            due.is("look(2)", x.look(2), 60 * i);
        }
        due.is("days(39)", x.days(39), 0);
        due.is("look(2)", x.look(2), 9999);
        due.is("days(1)", x.days(1), -1);
        due.is("look(2)", x.look(2), 9999);
    }
}
