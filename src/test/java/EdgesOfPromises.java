/** Promises 1 to 16: what an object is told, what is done, and the TEXTS. */
final class EdgesOfPromises {
    private static final int MIN = Integer.MIN_VALUE;
    private static final int MAX = Integer.MAX_VALUE;

    static void tell(Edges edges) {
        edges.in("Promise 1");
        edges.of("No words, nobody", EdgesOfPromises::nothing);
        edges.in("Promise 2");
        edges.of("STATE is told: what it was", EdgesOfPromises::state);
        edges.in("Promise 3");
        edges.of("A WORD: the number", EdgesOfPromises::word);
        edges.of("NONE if one can't be", EdgesOfPromises::wordCannotBe);
        edges.of("or there are fourteen", EdgesOfPromises::fourteen);
        edges.in("Promise 4");
        edges.of("A PERSON: the number", EdgesOfPromises::person);
        edges.of("NONE if one can't be", EdgesOfPromises::personCannotBe);
        edges.of("or there are ten", EdgesOfPromises::ten);
        edges.in("Promise 5");
        edges.of("What 0 CHAT (who not asked)", EdgesOfPromises::setChat);
        edges.of("1 BREATH of PERSON who", EdgesOfPromises::setBreath);
        edges.of("2 UNSAID of WORD who: true", EdgesOfPromises::setUnsaid);
        edges.of("false if one can't be", EdgesOfPromises::setCannotBe);
        edges.of("or another what", EdgesOfPromises::setAnotherWhat);
        edges.in("Promise 6");
        edges.of("KIN, or not: true", EdgesOfPromises::kin);
        edges.of("false if one can't be", EdgesOfPromises::kinCannotBe);
        edges.of("(alike)", EdgesOfPromises::kinAlike);
        edges.in("Promise 7");
        edges.of("MILES: true", EdgesOfPromises::miles);
        edges.of("false if one can't be", EdgesOfPromises::milesCannotBe);
        edges.of("(alike)", EdgesOfPromises::milesAlike);
        tellDeeds(edges);
        tellTape(edges);
    }

    private static void tellDeeds(Edges edges) {
        edges.in("Promise 8");
        edges.of("To SAY: 1 HEARD, 0 not", EdgesOfPromises::say);
        edges.of("NONE, and nothing is done, if it can't be", EdgesOfPromises::sayCannotBe);
        edges.in("Promise 9");
        edges.of("To MOVE: true", EdgesOfPromises::move);
        edges.of("false if it can't be", EdgesOfPromises::moveCannotBe);
        edges.of("(he is there)", EdgesOfPromises::heIsThere);
        edges.in("Promise 10");
        edges.of("To TEACH: true", EdgesOfPromises::teach);
        edges.of("false if it can't be", EdgesOfPromises::teachCannotBe);
        edges.of("(LAPSED", EdgesOfPromises::teachLapsed);
        edges.of("he has it)", EdgesOfPromises::heHasIt);
        edges.in("Promise 11");
        edges.of("To CARVE: true", EdgesOfPromises::carve);
        edges.of("false if it is not LAPSED", EdgesOfPromises::notLapsed);
        edges.in("Promise 12");
        edges.of("DAYS go by (1 .. 60)", EdgesOfPromises::days);
        edges.of("how many WORDS LAPSED", EdgesOfPromises::howManyLapsed);
        edges.of("NONE, and nothing is done, if one can't be", EdgesOfPromises::daysCannotBe);
        edges.of("or DAY would be above 9999", EdgesOfPromises::dayAboveMost);
    }

    private static void tellTape(Edges edges) {
        edges.in("Promise 13");
        edges.of("Twenty bytes come behind the TAPE, of each number the highest first: how many it has", EdgesOfPromises::feed);
        edges.of("NONE, and nothing comes, if there would be more than 400", EdgesOfPromises::feedTooMany);
        edges.in("Promise 14");
        edges.of("The TAPE has its first n bytes alone: true", EdgesOfPromises::end);
        edges.of("false, changing nothing, if it has not so many", EdgesOfPromises::endNotSoMany);
        edges.of("or n is below 0", EdgesOfPromises::endBelowZero);
        edges.in("Promise 15");
        edges.of("The TAPE, empty then, is TEXT k: how many lines", EdgesOfPromises::text);
        edges.of("NONE: no such one (fault() tells 0)", EdgesOfPromises::noSuchText);
        edges.of("or a FAULT (the TEXT stays as it was", EdgesOfPromises::textStays);
        edges.of("the TAPE is empty in each case)", EdgesOfPromises::tapeIsEmpty);
        edges.in("Promise 16");
        edges.of("Of the latest text()", EdgesOfPromises::latestText);
        edges.of("what 0 the FAULT (0 without one)", EdgesOfPromises::fault);
        edges.of("1 its place (NONE)", EdgesOfPromises::faultPlace);
        edges.of("NONE for another what", EdgesOfPromises::faultAnotherWhat);
    }

    /** Two WORDS, the second LAPSED; two PEOPLE at PLACE 0; one thing can be undone. */
    private static UnsaidWords world() {
        UnsaidWords x = Due.made(new int[] {3, 4}, 0, 0);
        Due.lapse(x, 2);
        x.set(0, 0, 0);
        x.teach(0, 0);
        return x;
    }

    private static void nothing(Due due) {
        UnsaidWords x = new UnsaidWords();
        for (int what = 0; what < 14; what++) {
            due.is("look(" + what + ")", x.look(what), 0);
        }
        due.is("no WORD", x.of(0, 0), -1);
        due.is("nobody", x.who(0, 0), -1);
        due.is("THE BOOK is empty", x.book(0, 0), -2);
        due.is("the TAPE is empty", x.end(1), false);
        due.is("no FAULT", x.fault(0), 0);
        due.is("no FAULT's place", x.fault(1), -1);
        due.is("nothing can be undone", x.undo(), false);
        due.is("no IMAGE", x.image(false), false);
        due.is("no TALK, nobody", x.spoke(true), 0);
        x.word(5);
        x.person(5);
        due.is("another object has none of it", new UnsaidWords().look(0) + new UnsaidWords().look(1), 0);
    }

    private static void state(Due due) {
        UnsaidWords x = world();
        int was = 0;
        for (int v : new int[] {1, -1, MIN, MAX, 0, 77}) {
            due.is("state(" + v + ")", x.state(v), was);
            due.is("look(6)", x.look(6), v);
            was = v;
        }
    }

    private static void word(Due due) {
        UnsaidWords x = new UnsaidWords();
        due.is("the first", x.word(20), 0);
        due.is("the second", x.word(1), 1);
        int[] want = {1, 0, 0, 0, 0, 365, 0};
        for (int what = 0; what < 7; what++) {
            due.is("of(1, " + what + ")", x.of(1, what), want[what]);
        }
        x.image(true);
        x.word(7);
        x.set(2, 2, 55);
        x.kin(2, 0, true);
        x.image(false);
        due.is("again the third", x.word(9), 2);
        due.is("its LONG", x.of(2, 0), 9);
        due.is("its UNSAID", x.of(2, 1), 0);
        due.is("its KIN", x.of(2, 4), 0);
    }

    private static void wordCannotBe(Due due) {
        UnsaidWords x = world();
        String was = Due.all(x);
        for (int bad : new int[] {0, -1, 21, 22, MIN, MAX}) {
            due.is("word(" + bad + ")", x.word(bad), -1);
        }
        due.is("nothing is done", Due.all(x).equals(was), true);
    }

    private static void fourteen(Due due) {
        UnsaidWords x = new UnsaidWords();
        for (int i = 0; i < 14; i++) {
            due.is("word", x.word(20), i);
        }
        x.person(0);
        x.move(0, 1);
        for (int i = 0; i < 3; i++) {
            due.is("there are fourteen", x.word(1 + i), -1);
            due.is("look(0)", x.look(0), 14);
        }
        due.is("nothing is forgotten", x.look(12), 1);
    }

    private static void person(Due due) {
        UnsaidWords x = new UnsaidWords();
        due.is("the first", x.person(9), 0);
        due.is("the second", x.person(0), 1);
        int[] want = {0, 0, 50};
        for (int what = 0; what < 3; what++) {
            due.is("who(1, " + what + ")", x.who(1, what), want[what]);
        }
        x.word(1);
        x.image(true);
        x.person(7);
        x.teach(2, 0);
        x.set(1, 2, 5);
        x.image(false);
        due.is("again the third", x.person(4), 2);
        due.is("AT", x.who(2, 0), 4);
        due.is("TONGUE", x.who(2, 1), 0);
        due.is("BREATH", x.who(2, 2), 50);
    }

    private static void personCannotBe(Due due) {
        UnsaidWords x = world();
        String was = Due.all(x);
        for (int bad : new int[] {-1, 10, 11, MIN, MAX}) {
            due.is("person(" + bad + ")", x.person(bad), -1);
        }
        due.is("nothing is done", Due.all(x).equals(was), true);
    }

    private static void ten(Due due) {
        UnsaidWords x = new UnsaidWords();
        for (int i = 0; i < 10; i++) {
            due.is("person", x.person(0), i);
        }
        x.move(0, 1);
        for (int i = 0; i < 3; i++) {
            due.is("there are ten", x.person(i), -1);
            due.is("look(1)", x.look(1), 10);
        }
        due.is("nothing is forgotten", x.look(12), 1);
    }

    private static void setChat(Due due) {
        UnsaidWords x = world();
        for (int who : new int[] {0, 1, 2, -1, 99, MIN, MAX}) {
            due.is("set(0, " + who + ", 1000)", x.set(0, who, 1000), true);
            due.is("look(3)", x.look(3), 1000);
            due.is("set(0, " + who + ", 0)", x.set(0, who, 0), true);
            due.is("look(3)", x.look(3), 0);
        }
        due.is("without WORDS and PEOPLE", new UnsaidWords().set(0, 0, 1), true);
    }

    private static void setBreath(Due due) {
        UnsaidWords x = world();
        for (int v : new int[] {0, 1, 50, 98, 99}) {
            due.is("set(1, 1, " + v + ")", x.set(1, 1, v), true);
            due.is("who(1, 2)", x.who(1, 2), v);
        }
        due.is("another's", x.who(0, 2), 55);
    }

    private static void setUnsaid(Due due) {
        UnsaidWords x = world();
        for (int v : new int[] {0, 1, 365, 9998, 9999}) {
            for (int w = 0; w < 2; w++) {
                due.is("set(2, " + w + ", " + v + ")", x.set(2, w, v), true);
                due.is("of(" + w + ", 1)", x.of(w, 1), v);
            }
        }
        due.is("nothing LAPSES of it", x.look(4), 2);
        due.is("set(2, 0, 3)", x.set(2, 0, 3), true);
        due.is("another's", x.of(1, 1), 9999);
    }

    private static void setCannotBe(Due due) {
        UnsaidWords x = world();
        String was = Due.all(x);
        int[][] bad = {{0, 0, -1}, {0, 0, 1001}, {0, 0, MIN}, {0, 0, MAX}, {1, 0, -1}, {1, 0, 100}, {1, 2, 5}, {1, -1, 5},
            {1, 10, 5}, {1, MIN, 5}, {1, 0, MAX}, {2, 0, -1}, {2, 0, 10000}, {2, 2, 5}, {2, -1, 5}, {2, 14, 5}, {2, MAX, 5}, {2, 0, MIN}};
        for (int[] b : bad) {
            due.is("set(" + b[0] + ", " + b[1] + ", " + b[2] + ")", x.set(b[0], b[1], b[2]), false);
        }
        due.is("nothing is done", Due.all(x).equals(was), true);
    }

    private static void setAnotherWhat(Due due) {
        UnsaidWords x = world();
        String was = Due.all(x);
        for (int what : new int[] {-1, 3, 4, MIN, MAX}) {
            due.is("set(" + what + ", 0, 5)", x.set(what, 0, 5), false);
        }
        due.is("nothing is done", Due.all(x).equals(was), true);
    }

    private static void kin(Due due) {
        UnsaidWords x = world();
        x.word(5);
        due.is("KIN", x.kin(0, 2, true), true);
        due.is("both ways", x.of(0, 4), 4);
        due.is("both ways", x.of(2, 4), 1);
        due.is("KIN as they are", x.kin(2, 0, true), true);
        due.is("with a LAPSED one", x.kin(1, 2, true), true);
        due.is("two", x.of(2, 4), 3);
        due.is("not", x.kin(2, 0, false), true);
        due.is("one way", x.of(0, 4), 0);
        due.is("the other", x.of(2, 4), 2);
        due.is("not as they are", x.kin(0, 2, false), true);
    }

    private static void kinCannotBe(Due due) {
        UnsaidWords x = world();
        String was = Due.all(x);
        int[][] bad = {{0, 2}, {2, 0}, {-1, 0}, {0, -1}, {14, 0}, {0, MAX}, {MIN, 0}, {2, 3}};
        for (int[] b : bad) {
            due.is("kin(" + b[0] + ", " + b[1] + ", true)", x.kin(b[0], b[1], true), false);
            due.is("kin(" + b[0] + ", " + b[1] + ", false)", x.kin(b[0], b[1], false), false);
        }
        due.is("nothing is done", Due.all(x).equals(was), true);
    }

    private static void kinAlike(Due due) {
        UnsaidWords x = world();
        String was = Due.all(x);
        for (int w = 0; w < 2; w++) {
            due.is("kin(" + w + ", " + w + ", true)", x.kin(w, w, true), false);
            due.is("kin(" + w + ", " + w + ", false)", x.kin(w, w, false), false);
        }
        due.is("nothing is done", Due.all(x).equals(was), true);
    }

    private static void miles(Due due) {
        UnsaidWords x = world();
        int[][] good = {{0, 9, 99}, {9, 0, 0}, {0, 1, 1}, {1, 0, 98}};
        for (int[] g : good) {
            due.is("miles(" + g[0] + ", " + g[1] + ", " + g[2] + ")", x.miles(g[0], g[1], g[2]), true);
            due.is("MILES from PLACE 0", x.round(0, 1 << g[0] + g[1], 0), g[2]);
        }
        due.is("of others", x.round(0, 4, 0), 10);
    }

    private static void milesCannotBe(Due due) {
        UnsaidWords x = world();
        int can = x.look(12);
        int[][] bad = {{0, 10, 5}, {10, 0, 5}, {-1, 0, 5}, {0, -1, 5}, {0, 1, -1}, {0, 1, 100}, {MIN, 0, 5}, {0, MAX, 5}, {0, 1, MIN}, {0, 1, MAX}};
        for (int[] b : bad) {
            due.is("miles(" + b[0] + ", " + b[1] + ", " + b[2] + ")", x.miles(b[0], b[1], b[2]), false);
        }
        for (int to = 1; to < 10; to++) {
            due.is("nothing is done", x.round(0, 1 << to, 0), 10);
        }
        due.is("nothing is forgotten", x.look(12), can);
    }

    private static void milesAlike(Due due) {
        UnsaidWords x = world();
        int can = x.look(12);
        for (int place = 0; place < 10; place++) {
            due.is("miles(" + place + ", " + place + ", 5)", x.miles(place, place, 5), false);
            due.is("miles(" + place + ", " + place + ", 0)", x.miles(place, place, 0), false);
        }
        due.is("nothing is done", x.round(0, 1, 0), 0);
        due.is("nothing is forgotten", x.look(12), can);
    }

    private static void say(Due due) {
        UnsaidWords x = world();
        due.is("not HEARD", x.say(0, 0), 0);
        due.is("SAID", x.of(0, 3), 0);
        x.teach(1, 0);
        x.person(0);
        due.is("not HEARD", x.say(0, 0), 0);
        x.teach(2, 0);
        due.is("HEARD", x.say(0, 0), 1);
        due.is("SAID", x.of(0, 3), 1);
        due.is("what can be undone", x.look(12), 3);
    }

    private static void sayCannotBe(Due due) {
        UnsaidWords x = world();
        x.set(1, 0, 2);
        String was = Due.all(x);
        int[][] bad = {{0, 0}, {1, 0}, {0, 1}, {2, 0}, {-1, 0}, {0, 2}, {0, -1}, {0, 14}, {10, 0}, {MIN, 0}, {0, MAX}, {MAX, MIN}};
        for (int[] b : bad) {
            due.is("say(" + b[0] + ", " + b[1] + ")", x.say(b[0], b[1]), -1);
        }
        due.is("nothing is done", Due.all(x).equals(was), true);
        x.set(1, 0, 3);
        due.is("it can be", x.say(0, 0), 0);
        due.is("of nothing", new UnsaidWords().say(0, 0), -1);
    }

    private static void move(Due due) {
        UnsaidWords x = world();
        for (int place : new int[] {9, 1, 0, 5}) {
            due.is("move(1, " + place + ")", x.move(1, place), true);
            due.is("AT", x.who(1, 0), place);
            due.is("AT of another", x.who(0, 0), 0);
        }
        due.is("what can be undone", x.look(12), 5);
    }

    private static void moveCannotBe(Due due) {
        UnsaidWords x = world();
        String was = Due.all(x);
        int[][] bad = {{2, 1}, {-1, 1}, {10, 1}, {0, 10}, {0, -1}, {MIN, 1}, {MAX, 1}, {0, MIN}, {0, MAX}};
        for (int[] b : bad) {
            due.is("move(" + b[0] + ", " + b[1] + ")", x.move(b[0], b[1]), false);
        }
        due.is("nothing is done", Due.all(x).equals(was), true);
        due.is("of nobody", new UnsaidWords().move(0, 1), false);
    }

    private static void heIsThere(Due due) {
        UnsaidWords x = world();
        String was = Due.all(x);
        due.is("move(0, 0)", x.move(0, 0), false);
        due.is("nothing is done", Due.all(x).equals(was), true);
        x.move(0, 9);
        was = Due.all(x);
        due.is("move(0, 9)", x.move(0, 9), false);
        due.is("nothing is done", Due.all(x).equals(was), true);
        due.is("another is not", x.move(1, 9), true);
    }

    private static void teach(Due due) {
        UnsaidWords x = world();
        due.is("another", x.teach(1, 0), true);
        due.is("TONGUE", x.who(1, 1), 1);
        due.is("of(0, 6)", x.of(0, 6), 3);
        due.is("what can be undone", x.look(12), 2);
        x.word(20);
        due.is("another WORD", x.teach(1, 2), true);
        due.is("TONGUE", x.who(1, 1), 5);
        due.is("who teaches is not asked: TONGUE", x.who(0, 1), 1);
    }

    private static void teachCannotBe(Due due) {
        UnsaidWords x = world();
        String was = Due.all(x);
        int[][] bad = {{2, 0}, {-1, 0}, {10, 0}, {1, 2}, {1, -1}, {1, 14}, {MIN, 0}, {1, MAX}, {1, MIN}, {MAX, 0}};
        for (int[] b : bad) {
            due.is("teach(" + b[0] + ", " + b[1] + ")", x.teach(b[0], b[1]), false);
        }
        due.is("nothing is done", Due.all(x).equals(was), true);
        due.is("of nothing", new UnsaidWords().teach(0, 0), false);
    }

    private static void teachLapsed(Due due) {
        UnsaidWords x = world();
        String was = Due.all(x);
        due.is("teach(0, 1)", x.teach(0, 1), false);
        due.is("teach(1, 1)", x.teach(1, 1), false);
        due.is("nothing is done", Due.all(x).equals(was), true);
        x.carve(1);
        due.is("not any more", x.teach(1, 1), true);
    }

    private static void heHasIt(Due due) {
        UnsaidWords x = world();
        String was = Due.all(x);
        due.is("teach(0, 0)", x.teach(0, 0), false);
        due.is("nothing is done", Due.all(x).equals(was), true);
        due.is("another has it not", x.teach(1, 0), true);
        due.is("he has it then", x.teach(1, 0), false);
    }

    private static void carve(Due due) {
        UnsaidWords x = world();
        due.is("carve(1)", x.carve(1), true);
        due.is("look(4)", x.look(4), 0);
        due.is("UNSAID", x.of(1, 1), 0);
        due.is("what can be undone", x.look(12), 2);
    }

    private static void notLapsed(Due due) {
        UnsaidWords x = world();
        String was = Due.all(x);
        for (int bad : new int[] {0, 2, -1, 14, MIN, MAX}) {
            due.is("carve(" + bad + ")", x.carve(bad), false);
        }
        due.is("nothing is done", Due.all(x).equals(was), true);
        x.carve(1);
        was = Due.all(x);
        due.is("not any more", x.carve(1), false);
        due.is("nothing is done", Due.all(x).equals(was), true);
        due.is("of nothing", new UnsaidWords().carve(0), false);
    }

    private static void days(Due due) {
        UnsaidWords x = world();
        due.is("days(1)", x.days(1), 0);
        due.is("look(2)", x.look(2), 2);
        due.is("days(60)", x.days(60), 0);
        due.is("look(2)", x.look(2), 62);
        due.is("days(59)", x.days(59), 0);
        due.is("look(2)", x.look(2), 121);
        due.is("UNSAID", x.of(0, 1), 121);
    }

    private static void howManyLapsed(Due due) {
        UnsaidWords x = Due.made(new int[] {1, 1, 1, 1});
        due.is("none", x.days(1), 0);
        Due.tell(x, 1, "keep 4+word;");
        due.is("none", x.days(2), 0);
        due.is("one of four", x.days(1), 1);
        due.is("two more, not the one ahead", x.days(2), 2);
        due.is("the last", x.days(60), 1);
        due.is("no more", x.days(60), 0);
        x.carve(0);
        x.carve(2);
        Due.tell(x, 1, "keep 1;");
        due.is("both on one day", x.days(1), 2);
    }

    private static void daysCannotBe(Due due) {
        UnsaidWords x = world();
        Due.tell(x, 1, "keep 1;");
        String was = Due.all(x);
        for (int bad : new int[] {0, -1, 61, 62, MIN, MAX}) {
            due.is("days(" + bad + ")", x.days(bad), -1);
        }
        due.is("nothing is done", Due.all(x).equals(was), true);
    }

    private static void dayAboveMost(Due due) {
        UnsaidWords x = Due.made(new int[] {1}, 0);
        for (int i = 0; i < 166; i++) {
            x.days(60);
        }
        due.is("look(2)", x.look(2), 9960);
        String was = Due.all(x);
        due.is("days(60)", x.days(60), -1);
        due.is("days(40)", x.days(40), -1);
        due.is("nothing is done", Due.all(x).equals(was), true);
        due.is("days(39)", x.days(39), 0);
        due.is("look(2)", x.look(2), 9999);
        was = Due.all(x);
        due.is("days(1)", x.days(1), -1);
        due.is("nothing is done", Due.all(x).equals(was), true);
        x.undo();
        due.is("look(2)", x.look(2), 9998);
        due.is("days(2)", x.days(2), -1);
        due.is("days(1)", x.days(1), 0);
        due.is("look(2)", x.look(2), 9999);
    }

    private static void feed(Due due) {
        UnsaidWords x = Due.made(new int[] {3, 4});
        due.is("feed", x.feed(0x6D65616E, 0x7320303B, 0x6D65616E, 0x73203120, 0x6F722030), 20);
        due.is("behind the TAPE", x.feed(0x20313B6D, 0x65616E73, 0x20313B0A, 0x20202020, 0x20202020), 40);
        due.is("text", x.text(0), 3);
        due.is("of the second", x.wording(1, 0), 4);
        for (int i = 0; i < 4; i++) {
            int sign = 0x3B << 8 * i;
            due.is("feed", x.feed(0x20202020 & ~(255 << 8 * i) | sign, 0, 0, 0, 0), 20);
            due.is("text", x.text(0), -1);
            due.is("the highest first", x.fault(1), 3 - i);
        }
        x.feed(0x6D65616E, 0x7320B03B, 0, 0, 0);
        due.is("text", x.text(0), -1);
        due.is("0xB0 is not 0x30", x.fault(1), 6);
        due.is("bytes above 127", x.feed(-1, MIN, 0x80808080, 0xFFFFFF00, -2), 20);
        due.is("text", x.text(0), -1);
        due.is("fault(1)", x.fault(1), 0);
    }

    private static void feedTooMany(Due due) {
        UnsaidWords x = Due.made(new int[] {3});
        int blanks = 0x20202020;
        for (int i = 1; i <= 20; i++) {
            due.is("feed", x.feed(blanks, blanks, blanks, blanks, blanks), 20 * i);
        }
        due.is("400 are full", x.feed(-1, -1, -1, -1, -1), -1);
        due.is("nothing came: no 401st", x.end(401), false);
        due.is("end(400)", x.end(400), true);
        due.is("end(381)", x.end(381), true);
        due.is("401 would be", x.feed(-1, -1, -1, -1, -1), -1);
        due.is("nothing came", x.end(382), false);
        due.is("end(380)", x.end(380), true);
        due.is("just 400", x.feed(blanks, blanks, blanks, blanks, blanks), 400);
        due.is("all blanks", x.text(0), 0);
        due.is("empty then", x.feed(-1, -1, -1, -1, -1), 20);
    }

    private static void end(Due due) {
        UnsaidWords x = Due.made(new int[] {3});
        Due.tape(x, "means 0;means 0;");
        due.is("as many as it has", x.end(16), true);
        due.is("end(8)", x.end(8), true);
        due.is("they are gone", x.end(9), false);
        due.is("its first", x.text(0), 1);
        Due.tape(x, "means 0;");
        due.is("end(0)", x.end(0), true);
        due.is("end(0) of none", x.end(0), true);
        due.is("none", x.end(1), false);
        due.is("what comes then is the first", x.feed(0x6D65616E, 0x7320303B, 0x20202020, 0x20202020, 0x20202020), 20);
        due.is("text", x.text(0), 1);
    }

    private static void endNotSoMany(Due due) {
        UnsaidWords x = Due.made(new int[] {3});
        due.is("of none", x.end(1), false);
        Due.tape(x, "means 0;");
        for (int bad : new int[] {9, 20, 400, 401, MAX}) {
            due.is("end(" + bad + ")", x.end(bad), false);
        }
        due.is("nothing is changed", x.end(8), true);
        due.is("text", x.text(0), 1);
    }

    private static void endBelowZero(Due due) {
        UnsaidWords x = Due.made(new int[] {3});
        due.is("of none", x.end(-1), false);
        Due.tape(x, "means 0;");
        due.is("end(-1)", x.end(-1), false);
        due.is("end(-8)", x.end(-8), false);
        due.is("end(MIN)", x.end(MIN), false);
        due.is("nothing is changed", x.end(8), true);
        due.is("text", x.text(0), 1);
    }

    private static void text(Due due) {
        UnsaidWords x = world();
        String[] texts = {"means 0;means 0 or 1;means 1;", "keep 5;hear 6;", "on 5 1 rests;", "need 2 by 7 worth 8;need 0 by 0 worth 1;"};
        int[] lines = {3, 2, 1, 2};
        for (int k = 0; k < 4; k++) {
            due.is("text(" + k + ")", Due.tell(x, k, texts[k]), lines[k]);
            due.is("the TAPE is empty", x.end(1), false);
        }
        for (int k = 0; k < 4; k++) {
            due.is("look(" + (7 + k) + ")", x.look(7 + k), lines[k]);
        }
        for (int k = 3; k >= 0; k--) {
            due.is("no lines", x.text(k), 0);
            due.is("look(" + (7 + k) + ")", x.look(7 + k), 0);
        }
        due.is("no THE LAW: keep", x.of(0, 5), 365);
        due.is("no WALKS, no MEANINGS, no NEEDS", x.look(13) + x.misses(1), 0);
        Due.tell(x, 1, "keep 5;hear 6;tire 7;hear 8;");
        Due.tell(x, 1, "tire 9;");
        due.is("nothing is left of the longer one: keep", x.of(0, 5), 365);
        due.is("hear", x.asks(0, 0, false), 2);
        due.is("tire", x.asks(0, 0, true), 9);
        for (int i = 0; i < 12; i++) {
            Due.tell(x, 1, "tire " + i + "+1".repeat(40) + ";");
            due.is("told again and again", x.asks(0, 0, true), 40 + i);
        }
    }

    private static void noSuchText(Due due) {
        for (int bad : new int[] {-1, 4, 5, MIN, MAX}) {
            UnsaidWords x = world();
            due.is("a FAULT", Due.tell(x, 0, "x"), -1);
            due.is("fault(0)", x.fault(0), 1);
            Due.tape(x, "means 0;");
            String was = Due.all(x);
            due.is("text(" + bad + ")", x.text(bad), -1);
            due.is("fault(0)", x.fault(0), 0);
            due.is("fault(1)", x.fault(1), -1);
            due.is("nothing is told", Due.all(x).equals(was), true);
        }
    }

    private static void textStays(Due due) {
        UnsaidWords x = world();
        Due.tell(x, 0, "means 0;means 1 or 0;");
        Due.tell(x, 1, "keep 5;hear 6;tire 7;");
        Due.tell(x, 2, "on 1 1 goes 7;");
        Due.tell(x, 3, "need 1 by 1 worth 8;");
        x.teach(1, 0);
        String was = Due.all(x);
        String[] texts = {"means 0;means 1;means 2;", "keep 9;hear 9;tire 9;tire 1/0;", "on 1 1 goes 3;on 1 1 goes 10;", "need 0 by 1 worth 1;need 0 by 1 worth 0;"};
        for (int k = 0; k < 4; k++) {
            due.is("text(" + k + ")", Due.tell(x, k, texts[k]), -1);
            due.is("fault(0)", x.fault(0), 2);
            due.is("nothing is told or forgotten", Due.all(x).equals(was), true);
        }
        due.is("MEANINGS stay", x.wording(1, 1), 1);
        due.is("THE LAW stays", x.asks(0, 0, true), 7);
        due.is("NEEDS stay", x.misses(1), 8);
        x.days(1);
        due.is("WALKS stay", x.who(1, 0), 7);
    }

    private static void tapeIsEmpty(Due due) {
        UnsaidWords x = world();
        for (int k = -1; k <= 4; k++) {
            Due.tape(x, "x");
            due.is("text(" + k + ") with a FAULT, or no such one", x.text(k), -1);
            due.is("the TAPE is empty", x.end(1), false);
        }
        Due.tape(x, "means 0;");
        due.is("without a FAULT", x.text(0), 1);
        due.is("the TAPE is empty", x.end(1), false);
    }

    private static void latestText(Due due) {
        UnsaidWords x = world();
        Due.tell(x, 0, "means 5;");
        due.is("fault(0)", x.fault(0), 2);
        due.is("fault(1)", x.fault(1), 6);
        Due.tell(x, 1, " keep;");
        due.is("fault(0)", x.fault(0), 1);
        due.is("fault(1)", x.fault(1), 5);
        x.feed(1, 2, 3, 4, 5);
        x.end(0);
        x.word(3);
        x.days(3);
        x.undo();
        due.is("other calls leave it", x.fault(0), 1);
        Due.tell(x, 2, "");
        due.is("the latest has none", x.fault(0), 0);
    }

    private static void fault(Due due) {
        due.is("of none", new UnsaidWords().fault(0), 0);
        UnsaidWords x = world();
        Due.tell(x, 1, "keep 1;");
        due.is("without one", x.fault(0), 0);
        Due.tell(x, 1, "keep 1");
        due.is("1", x.fault(0), 1);
        Due.tell(x, 1, "keep 1/0;");
        due.is("2", x.fault(0), 2);
        Due.tell(x, 0, "means 0;".repeat(11));
        due.is("3", x.fault(0), 3);
        Due.tell(x, 1, "keep 1;");
        due.is("without one", x.fault(0), 0);
    }

    private static void faultPlace(Due due) {
        due.is("of none", new UnsaidWords().fault(1), -1);
        UnsaidWords x = world();
        Due.tell(x, 1, "keep 1;");
        due.is("without one", x.fault(1), -1);
        Due.tell(x, 1, "x");
        due.is("the first", x.fault(1), 0);
        Due.tell(x, 1, " ".repeat(399) + "x");
        due.is("the last", x.fault(1), 399);
        Due.tell(x, 1, "keep" + " ".repeat(396));
        due.is("the end", x.fault(1), 400);
        Due.tell(x, 1, "");
        due.is("without one", x.fault(1), -1);
    }

    private static void faultAnotherWhat(Due due) {
        UnsaidWords x = world();
        Due.tell(x, 0, "means 5;");
        for (int bad : new int[] {-1, 2, 3, MIN, MAX}) {
            due.is("fault(" + bad + ")", x.fault(bad), -1);
        }
        due.is("fault(0)", x.fault(0), 2);
    }
}
