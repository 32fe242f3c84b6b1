/** Promises 17 to 41: what is answered, by what is asked, and UNDO and THE IMAGE as calls. */
final class EdgesOfAnswers {
    private static final int MIN = Integer.MIN_VALUE;
    private static final int MAX = Integer.MAX_VALUE;
    private static final String ANOTHER = "or another what";
    private static final String FOR_ANOTHER = "NONE for another what";

    static void tell(Edges edges) {
        tellLooks(edges);
        tellMeanings(edges);
        tellPeople(edges);
        tellTalk(edges);
        tellRest(edges);
        edges.in("Promise 39");
        edges.of("UNDO: true", EdgesOfAnswers::undo);
        edges.of("false if there is nothing", EdgesOfAnswers::undoNothing);
        edges.in("Promise 40");
        edges.of("THE IMAGE is taken (true), or gone back to (false): true", EdgesOfAnswers::image);
        edges.of("false if there is none", EdgesOfAnswers::noImage);
        edges.in("Promise 41");
        edges.of("What 0 WORDS, 1 PEOPLE, 2 DAY, 3 CHAT, 4 those LAPSED (a set), 5 lines of THE BOOK, 6 STATE, 7 MEANINGS, "
                + "8 lines of THE LAW, 9 of WALKS, 10 NEEDS, 11 TALK, 12 what can be undone, 13 MEANINGS that can be said now (a set)", EdgesOfAnswers::look);
        edges.of(FOR_ANOTHER, EdgesOfAnswers::lookAnotherWhat);
        edges.of("(STATE as it is.)", EdgesOfAnswers::stateAsItIs);
    }

    private static void tellLooks(Edges edges) {
        edges.in("Promise 17");
        edges.of("Of a WORD what 0 LONG, 1 UNSAID, 2 LAPSED, 3 SAID, 4 KIN (a set), 5 keep, 6 in whose TONGUES (a set)", EdgesOfAnswers::of);
        edges.of("NONE if there is none such", EdgesOfAnswers::ofNoneSuch);
        edges.of(ANOTHER, EdgesOfAnswers::ofAnotherWhat);
        edges.in("Promise 18");
        edges.of("Of a PERSON what 0 AT, 1 TONGUE (a set), 2 BREATH", EdgesOfAnswers::who);
        edges.of("NONE if there is none such", EdgesOfAnswers::whoNoneSuch);
        edges.of(ANOTHER, EdgesOfAnswers::whoAnotherWhat);
        edges.in("Promise 19");
        edges.of("hear (tire false), tire of a WORD said at a PLACE", EdgesOfAnswers::asks);
        edges.of("NONE if one can't be", EdgesOfAnswers::asksCannotBe);
        edges.in("Promise 20");
        edges.of("Of line i of THE BOOK what 0 DAY, 1 what, 2 who, 3 which", EdgesOfAnswers::book);
        edges.of("NONE - 1 if there is none such", EdgesOfAnswers::bookNoneSuch);
        edges.of(ANOTHER, EdgesOfAnswers::bookAnotherWhat);
        edges.in("Promise 21");
        edges.of("GOES what 0 how many, 1 the first WORD, 2 its DAY (NONE: none)", EdgesOfAnswers::goes);
        edges.of("NONE - 1 if one can't be", EdgesOfAnswers::goesCannotBe);
        edges.of(ANOTHER, EdgesOfAnswers::goesAnotherWhat);
        edges.in("Promise 22");
        edges.of("MISSES what 0 the first (NONE), 1 the worth", EdgesOfAnswers::misses);
        edges.of(FOR_ANOTHER, EdgesOfAnswers::missesAnotherWhat);
    }

    private static void tellMeanings(Edges edges) {
        edges.in("Promise 23");
        edges.of("WORDING what 0 LONG together, 1 its number", EdgesOfAnswers::wording);
        edges.of("NONE if there is none", EdgesOfAnswers::wordingNone);
        edges.of("no such MEANING", EdgesOfAnswers::noSuchMeaning);
        edges.of(ANOTHER, EdgesOfAnswers::wordingAnotherWhat);
        edges.in("Promise 24");
        edges.of("GO what 0 how many, 1 the set", EdgesOfAnswers::go);
        edges.of("COIN what 2 how many, 3 the set", EdgesOfAnswers::coin);
        edges.of(FOR_ANOTHER, EdgesOfAnswers::goAnotherWhat);
    }

    private static void tellPeople(Edges edges) {
        edges.in("Promise 25");
        edges.of("KEEPERS what 0 how many, 1 the set", EdgesOfAnswers::keepers);
        edges.of("2 DEAREST (NONE without PEOPLE)", EdgesOfAnswers::dearest);
        edges.of(FOR_ANOTHER, EdgesOfAnswers::keepersAnotherWhat);
        edges.in("Promise 26");
        edges.of("COSTS", EdgesOfAnswers::costs);
        edges.of("NONE if there is no such PERSON", EdgesOfAnswers::costsNoPerson);
        edges.in("Promise 27");
        edges.of("ROUND what 0 MILES, 10 + i the i-th PLACE", EdgesOfAnswers::round);
        edges.of("NONE if one can't be", EdgesOfAnswers::roundCannotBe);
        edges.of("(more than 6 PLACES", EdgesOfAnswers::roundMoreThanSix);
        edges.of("other bits)", EdgesOfAnswers::roundOtherBits);
        edges.of("there is none such", EdgesOfAnswers::roundNoneSuch);
        edges.of(ANOTHER, EdgesOfAnswers::roundAnotherWhat);
        edges.in("Promise 28");
        edges.of("QUARREL what 0 how many both have, 1 the sum, 2 the set", EdgesOfAnswers::quarrel);
        edges.of("NONE if one can't be", EdgesOfAnswers::quarrelCannotBe);
        edges.of("(alike", EdgesOfAnswers::quarrelAlike);
        edges.of("1, 2: not so many)", EdgesOfAnswers::quarrelNotSoMany);
        edges.of(ANOTHER, EdgesOfAnswers::quarrelAnotherWhat);
    }

    private static void tellTalk(Edges edges) {
        edges.in("Promise 29");
        edges.of("TALK (word NONE: none is then", EdgesOfAnswers::talkNone);
        edges.of("place NONE: anywhere)", EdgesOfAnswers::talkAnywhere);
        edges.of("anywhere): how many", EdgesOfAnswers::talkHowMany);
        edges.of("NONE if one can't be", EdgesOfAnswers::talkCannotBe);
        edges.of("or there are ten", EdgesOfAnswers::talkTen);
        edges.in("Promise 30");
        edges.of("WHO, as a set (set true)", EdgesOfAnswers::spokeWho);
        edges.of("HEAR (set false", EdgesOfAnswers::spokeHear);
        edges.of("NONE: WHO are fewer than two", EdgesOfAnswers::fewerThanTwo);
        edges.of("or no WORDS)", EdgesOfAnswers::noWords);
        edges.in("Promise 31");
        edges.of("GRASPS", EdgesOfAnswers::grasps);
        edges.of("NONE if one can't be", EdgesOfAnswers::graspsCannotBe);
        edges.of("(alike may be)", EdgesOfAnswers::graspsAlike);
        edges.in("Promise 32");
        edges.of("CIRCLE, as a set", EdgesOfAnswers::circle);
        edges.of("NONE if there is no such PERSON", EdgesOfAnswers::circleNoPerson);
        edges.in("Promise 33");
        edges.of("ODDS", EdgesOfAnswers::odds);
        edges.of("NONE if one can't be", EdgesOfAnswers::oddsCannotBe);
    }

    private static void tellRest(Edges edges) {
        edges.in("Promise 34");
        edges.of("SCHOOL what 0 how many, 1 the set", EdgesOfAnswers::school);
        edges.of("NONE if there is no such PERSON", EdgesOfAnswers::schoolNoPerson);
        edges.of(ANOTHER, EdgesOfAnswers::schoolAnotherWhat);
        edges.in("Promise 35");
        edges.of("VERSE what 0 LONG, 1 the set", EdgesOfAnswers::verse);
        edges.of(FOR_ANOTHER, EdgesOfAnswers::verseAnotherWhat);
        edges.in("Promise 36");
        edges.of("BOAST what 0 LONG, 1 the MEANING", EdgesOfAnswers::boast);
        edges.of("NONE if there is none", EdgesOfAnswers::boastNone);
        edges.of("no such PERSON", EdgesOfAnswers::boastNoPerson);
        edges.of(ANOTHER, EdgesOfAnswers::boastAnotherWhat);
        edges.in("Promise 37");
        edges.of("CROWD what 0 the PLACE, 1 how many, 2 WORDS", EdgesOfAnswers::crowd);
        edges.of("(nobody there: 0)", EdgesOfAnswers::crowdNobody);
        edges.of(FOR_ANOTHER, EdgesOfAnswers::crowdAnotherWhat);
        edges.in("Promise 38");
        edges.of("SILENCE what 0 the WORD, 1 how many are left", EdgesOfAnswers::silence);
        edges.of("NONE if who begins loses", EdgesOfAnswers::whoBeginsLoses);
        edges.of("or for another what", EdgesOfAnswers::silenceAnotherWhat);
    }

    /**
     * Three WORDS of LONG 5, 6, 7, the third LAPSED; three PEOPLE, two at PLACE 4, who have 0 1, 0,
     * 1; two MEANINGS, the second by the LAPSED WORD alone; one NEED; DAY 1, nothing can be undone.
     */
    private static UnsaidWords world() {
        UnsaidWords x = Due.made(new int[] {5, 6, 7}, 4, 4, 9);
        Due.teach(x, 3, 1, 2);
        Due.lapse(x, 4);
        Due.tell(x, 0, "means 0 1 or 1;means 2;");
        Due.tell(x, 3, "need 0 by 1 worth 9;");
        x.kin(0, 2, true);
        return x;
    }

    private static void of(Due due) {
        UnsaidWords x = world();
        x.set(2, 0, 40);
        x.set(2, 2, 9999);
        Due.tell(x, 1, "hear 1;keep 70+word;");
        x.say(0, 0);
        int[][] want = {{5, 0, 0, 1, 4, 70, 3}, {6, 1, 0, 0, 0, 71, 5}, {7, 9999, 1, 0, 1, 72, 0}};
        for (int w = 0; w < 3; w++) {
            for (int what = 0; what < 7; what++) {
                due.is("of(" + w + ", " + what + ")", x.of(w, what), want[w][what]);
            }
        }
    }

    private static void ofNoneSuch(Due due) {
        UnsaidWords x = world();
        for (int bad : new int[] {-1, 3, 13, 14, MIN, MAX}) {
            for (int what = 0; what < 7; what++) {
                due.is("of(" + bad + ", " + what + ")", x.of(bad, what), -1);
            }
        }
        due.is("of nothing", new UnsaidWords().of(0, 0), -1);
    }

    private static void ofAnotherWhat(Due due) {
        UnsaidWords x = world();
        for (int bad : new int[] {-1, 7, 8, MIN, MAX}) {
            for (int w = 0; w < 3; w++) {
                due.is("of(" + w + ", " + bad + ")", x.of(w, bad), -1);
            }
        }
    }

    private static void who(Due due) {
        UnsaidWords x = world();
        x.set(1, 2, 99);
        int[][] want = {{4, 3, 55}, {4, 1, 55}, {9, 2, 99}};
        for (int p = 0; p < 3; p++) {
            for (int what = 0; what < 3; what++) {
                due.is("who(" + p + ", " + what + ")", x.who(p, what), want[p][what]);
            }
        }
    }

    private static void whoNoneSuch(Due due) {
        UnsaidWords x = world();
        for (int bad : new int[] {-1, 3, 9, 10, MIN, MAX}) {
            for (int what = 0; what < 3; what++) {
                due.is("who(" + bad + ", " + what + ")", x.who(bad, what), -1);
            }
        }
        due.is("of nobody", new UnsaidWords().who(0, 0), -1);
    }

    private static void whoAnotherWhat(Due due) {
        UnsaidWords x = world();
        for (int bad : new int[] {-1, 3, 4, MIN, MAX}) {
            due.is("who(0, " + bad + ")", x.who(0, bad), -1);
        }
    }

    private static void asks(Due due) {
        UnsaidWords x = world();
        due.is("hear", x.asks(0, 0, false), 2);
        due.is("tire", x.asks(0, 0, true), 5);
        due.is("tire of a LAPSED one", x.asks(2, 9, true), 7);
        Due.tell(x, 1, "hear at;tire 10*at+word;");
        for (int place = 0; place < 10; place++) {
            due.is("hear at " + place, x.asks(1, place, false), place);
            due.is("tire at " + place, x.asks(1, place, true), 10 * place + 1);
        }
        due.is("where nobody is, and of whom", x.asks(2, 7, true), 72);
    }

    private static void asksCannotBe(Due due) {
        UnsaidWords x = world();
        int[][] bad = {{-1, 0}, {3, 0}, {14, 0}, {MIN, 0}, {MAX, 0}, {0, -1}, {0, 10}, {0, MIN}, {0, MAX}};
        for (int[] b : bad) {
            due.is("asks(" + b[0] + ", " + b[1] + ", true)", x.asks(b[0], b[1], true), -1);
            due.is("asks(" + b[0] + ", " + b[1] + ", false)", x.asks(b[0], b[1], false), -1);
        }
    }

    private static void book(Due due) {
        UnsaidWords x = world();
        x.move(2, 0);
        x.carve(2);
        int[][] want = {{0, 4, 0, 0}, {0, 4, 0, 1}, {0, 4, 1, 0}, {0, 4, 2, 1}, {0, 2, -1, 2}, {1, 3, 2, 0}, {1, 5, -1, 2}};
        for (int i = 0; i < want.length; i++) {
            for (int what = 0; what < 4; what++) {
                due.is("book(" + i + ", " + what + ")", x.book(i, what), want[i][what]);
            }
        }
    }

    private static void bookNoneSuch(Due due) {
        UnsaidWords x = world();
        for (int bad : new int[] {-1, 5, 6, 149, 150, MIN, MAX}) {
            for (int what = 0; what < 4; what++) {
                due.is("book(" + bad + ", " + what + ")", x.book(bad, what), -2);
            }
        }
        due.is("the last", x.book(4, 0), 0);
        x.move(0, 1);
        due.is("one more", x.book(5, 0), 1);
        x.undo();
        due.is("undone", x.book(5, 0), -2);
        due.is("of nothing", new UnsaidWords().book(0, 0), -2);
        UnsaidWords y = Due.made(new int[] {}, 0);
        for (int i = 0; i < 151; i++) {
            y.move(0, 1 + i % 2);
        }
        due.is("the 150th", y.book(149, 1), 3);
        due.is("the 151st", y.book(150, 1), -2);
    }

    private static void bookAnotherWhat(Due due) {
        UnsaidWords x = world();
        for (int bad : new int[] {-1, 4, 5, MIN, MAX}) {
            due.is("book(0, " + bad + ")", x.book(0, bad), -2);
            due.is("book(4, " + bad + ")", x.book(4, bad), -2);
        }
    }

    private static void goes(Due due) {
        UnsaidWords x = world();
        Due.tell(x, 1, "keep 4 when word=1;keep 9;");
        int[][] want = {{1, 1, -1, -1}, {2, 1, -1, -1}, {3, 2, 1, 3}, {7, 2, 1, 3}, {8, 3, 1, 3}, {400, 3, 1, 3}};
        for (int[] w : want) {
            for (int what = 0; what < 3; what++) {
                due.is("goes(" + w[0] + ", " + what + ")", x.goes(w[0], what), w[what + 1]);
            }
        }
    }

    private static void goesCannotBe(Due due) {
        UnsaidWords x = world();
        for (int bad : new int[] {0, -1, 401, 402, MIN, MAX}) {
            for (int what = 0; what < 3; what++) {
                due.is("goes(" + bad + ", " + what + ")", x.goes(bad, what), -2);
            }
        }
        due.is("goes(1, 0)", x.goes(1, 0), 1);
        due.is("goes(400, 0)", x.goes(400, 0), 3);
    }

    private static void goesAnotherWhat(Due due) {
        UnsaidWords x = world();
        for (int bad : new int[] {-1, 3, 4, MIN, MAX}) {
            due.is("goes(1, " + bad + ")", x.goes(1, bad), -2);
            due.is("goes(400, " + bad + ")", x.goes(400, bad), -2);
        }
    }

    private static void misses(Due due) {
        UnsaidWords x = world();
        due.is("none", x.misses(0), -1);
        due.is("the worth", x.misses(1), 9);
        Due.tell(x, 3, "need 0 by 2 worth 9;need 1 by 2 worth 50;");
        due.is("the first", x.misses(0), 1);
        due.is("the worth", x.misses(1), 9);
        Due.tell(x, 3, "");
        due.is("no NEEDS", x.misses(0), -1);
        due.is("no NEEDS", x.misses(1), 0);
    }

    private static void missesAnotherWhat(Due due) {
        UnsaidWords x = world();
        for (int bad : new int[] {-1, 2, 3, MIN, MAX}) {
            due.is("misses(" + bad + ")", x.misses(bad), -1);
        }
    }

    private static void wording(Due due) {
        UnsaidWords x = world();
        due.is("LONG", x.wording(0, 0), 6);
        due.is("its number", x.wording(0, 1), 1);
        x.carve(2);
        due.is("LONG", x.wording(1, 0), 7);
        due.is("its number", x.wording(1, 1), 0);
    }

    private static void wordingNone(Due due) {
        UnsaidWords x = world();
        due.is("wording(1, 0)", x.wording(1, 0), -1);
        due.is("wording(1, 1)", x.wording(1, 1), -1);
        x.carve(2);
        due.is("wording(1, 0)", x.wording(1, 0), 7);
    }

    private static void noSuchMeaning(Due due) {
        UnsaidWords x = world();
        for (int bad : new int[] {-1, 2, 9, 10, MIN, MAX}) {
            due.is("wording(" + bad + ", 0)", x.wording(bad, 0), -1);
            due.is("wording(" + bad + ", 1)", x.wording(bad, 1), -1);
        }
        Due.tell(x, 0, "");
        due.is("none any more", x.wording(0, 0), -1);
    }

    private static void wordingAnotherWhat(Due due) {
        UnsaidWords x = world();
        for (int bad : new int[] {-1, 2, 3, MIN, MAX}) {
            due.is("wording(0, " + bad + ")", x.wording(0, bad), -1);
            due.is("wording(1, " + bad + ")", x.wording(1, bad), -1);
        }
    }

    private static void go(Due due) {
        UnsaidWords x = world();
        due.is("WORD 0 could: go(0)", x.go(0), 1);
        due.is("go(1)", x.go(1), 1);
        x.carve(2);
        due.is("go(0)", x.go(0), 1);
        Due.tell(x, 0, "");
        due.is("all: go(0)", x.go(0), 3);
        due.is("go(1)", x.go(1), 7);
    }

    private static void coin(Due due) {
        UnsaidWords x = world();
        due.is("WORD 2: go(2)", x.go(2), 1);
        due.is("go(3)", x.go(3), 4);
        x.carve(2);
        due.is("none: go(2)", x.go(2), 0);
        due.is("go(3)", x.go(3), 0);
    }

    private static void goAnotherWhat(Due due) {
        UnsaidWords x = world();
        for (int bad : new int[] {-1, 4, 5, MIN, MAX}) {
            due.is("go(" + bad + ")", x.go(bad), -1);
        }
    }

    private static void keepers(Due due) {
        UnsaidWords x = world();
        due.is("PERSON 0 alone: keepers(0)", x.keepers(0), 1);
        due.is("keepers(1)", x.keepers(1), 1);
        x.carve(2);
        x.teach(2, 2);
        due.is("0 and 2: keepers(0)", x.keepers(0), 2);
        due.is("keepers(1)", x.keepers(1), 5);
        due.is("nobody", new UnsaidWords().keepers(0), 0);
        due.is("nobody", new UnsaidWords().keepers(1), 0);
    }

    private static void dearest(Due due) {
        UnsaidWords x = Due.made(new int[] {1});
        due.is("without PEOPLE", x.keepers(2), -1);
        x.person(0);
        due.is("one", x.keepers(2), 0);
        x.person(0);
        x.person(0);
        x.teach(1, 0);
        due.is("the second of three", x.keepers(2), 1);
    }

    private static void keepersAnotherWhat(Due due) {
        UnsaidWords x = world();
        for (int bad : new int[] {-1, 3, 4, MIN, MAX}) {
            due.is("keepers(" + bad + ")", x.keepers(bad), -1);
        }
    }

    private static void costs(Due due) {
        UnsaidWords x = world();
        for (int p = 0; p < 3; p++) {
            due.is("none alone", x.costs(p), 0);
        }
        x.carve(2);
        x.teach(2, 2);
        due.is("one alone", x.costs(2), 1);
        due.is("none", x.costs(0), 0);
    }

    private static void costsNoPerson(Due due) {
        UnsaidWords x = world();
        for (int bad : new int[] {-1, 3, 9, 10, MIN, MAX}) {
            due.is("costs(" + bad + ")", x.costs(bad), -1);
        }
        due.is("of nobody", new UnsaidWords().costs(0), -1);
    }

    private static void round(Due due) {
        UnsaidWords x = world();
        x.miles(4, 8, 3);
        x.miles(8, 2, 4);
        due.is("MILES", x.round(0, 4 | 256, 0), 7);
        due.is("the PLACE 0", x.round(0, 4 | 256, 10), 8);
        due.is("the PLACE 1", x.round(0, 4 | 256, 11), 2);
        due.is("six PLACES", x.round(0, 63, 0), 50);
        int[] order = {4, 0, 1, 2, 3, 5};
        for (int i = 0; i < 6; i++) {
            due.is("the PLACE " + i, x.round(0, 63, 10 + i), order[i]);
        }
    }

    private static void roundCannotBe(Due due) {
        UnsaidWords x = world();
        for (int bad : new int[] {-1, 3, 9, 10, MIN, MAX}) {
            due.is("round(" + bad + ", 1, 0)", x.round(bad, 1, 0), -1);
            due.is("round(" + bad + ", 1, 10)", x.round(bad, 1, 10), -1);
        }
        due.is("of nobody", new UnsaidWords().round(0, 1, 0), -1);
    }

    private static void roundMoreThanSix(Due due) {
        UnsaidWords x = world();
        for (int bad : new int[] {127, 1016, 1023, 511, 0x37F}) {
            due.is("round(0, " + bad + ", 0)", x.round(0, bad, 0), -1);
            due.is("round(0, " + bad + ", 10)", x.round(0, bad, 10), -1);
        }
        due.is("six", x.round(0, 0x3F0, 0), 50);
        due.is("none", x.round(0, 0, 0), 0);
    }

    private static void roundOtherBits(Due due) {
        UnsaidWords x = world();
        for (int bad : new int[] {1024, 1025, 2048, 1 << 30, MIN, MIN | 1, -1, MAX, 1 << 14}) {
            due.is("round(0, " + bad + ", 0)", x.round(0, bad, 0), -1);
            due.is("round(0, " + bad + ", 10)", x.round(0, bad, 10), -1);
        }
        due.is("the last bit", x.round(0, 512, 0), 10);
    }

    private static void roundNoneSuch(Due due) {
        UnsaidWords x = world();
        for (int many = 0; many <= 6; many++) {
            int places = (1 << many) - 1;
            if (many > 0) {
                due.is("the last of " + many, x.round(0, places, 9 + many) >= 0, true);
            }
            due.is("behind the last of " + many, x.round(0, places, 10 + many), -1);
            due.is("far behind", x.round(0, places, 16), -1);
        }
    }

    private static void roundAnotherWhat(Due due) {
        UnsaidWords x = world();
        for (int bad : new int[] {-1, 1, 2, 5, 9, 17, 100, MIN, MAX}) {
            due.is("round(0, 63, " + bad + ")", x.round(0, 63, bad), -1);
        }
    }

    private static void quarrel(Due due) {
        UnsaidWords x = world();
        x.teach(1, 1);
        x.set(2, 0, 20);
        x.set(2, 1, 30);
        due.is("how many", x.quarrel(0, 1, 1, 0), 2);
        due.is("the sum", x.quarrel(0, 1, 1, 1), 30);
        due.is("the set", x.quarrel(0, 1, 1, 2), 2);
        due.is("the sum", x.quarrel(1, 0, 2, 1), 50);
        due.is("the set", x.quarrel(1, 0, 2, 2), 3);
        due.is("how many", x.quarrel(1, 0, 6, 0), 2);
    }

    private static void quarrelCannotBe(Due due) {
        UnsaidWords x = world();
        int[][] bad = {{-1, 0, 1}, {0, -1, 1}, {3, 0, 1}, {0, 3, 1}, {10, 0, 1}, {MIN, 0, 1}, {0, MAX, 1}, {0, 1, 0}, {0, 1, 7}, {0, 1, -1}, {0, 1, MIN}, {0, 1, MAX}};
        for (int[] b : bad) {
            for (int what = 0; what < 3; what++) {
                due.is("quarrel(" + b[0] + ", " + b[1] + ", " + b[2] + ", " + what + ")", x.quarrel(b[0], b[1], b[2], what), -1);
            }
        }
        due.is("it can be", x.quarrel(0, 1, 1, 1), 1);
    }

    private static void quarrelAlike(Due due) {
        UnsaidWords x = world();
        for (int p = 0; p < 3; p++) {
            for (int what = 0; what < 3; what++) {
                due.is("quarrel(" + p + ", " + p + ", 1, " + what + ")", x.quarrel(p, p, 1, what), -1);
            }
        }
    }

    private static void quarrelNotSoMany(Due due) {
        UnsaidWords x = world();
        due.is("one", x.quarrel(0, 1, 1, 1), 1);
        due.is("one", x.quarrel(0, 1, 1, 2), 1);
        due.is("not two", x.quarrel(0, 1, 2, 1), -1);
        due.is("not two", x.quarrel(0, 1, 2, 2), -1);
        due.is("how many is told all the same", x.quarrel(0, 1, 2, 0), 1);
        due.is("none", x.quarrel(1, 2, 1, 0), 0);
        due.is("not one", x.quarrel(1, 2, 1, 1), -1);
        due.is("not one", x.quarrel(1, 2, 1, 2), -1);
    }

    private static void quarrelAnotherWhat(Due due) {
        UnsaidWords x = world();
        for (int bad : new int[] {-1, 3, 4, MIN, MAX}) {
            due.is("quarrel(0, 1, 1, " + bad + ")", x.quarrel(0, 1, 1, bad), -1);
        }
    }

    private static void talkNone(Due due) {
        UnsaidWords x = world();
        for (int place : new int[] {-1, 0, 9, 10, -2, 499, MIN, MAX}) {
            x.talk(0, -1);
            x.talk(2, 3);
            due.is("two", x.look(11), 2);
            due.is("talk(-1, " + place + ")", x.talk(-1, place), 0);
            due.is("none is then", x.look(11), 0);
            due.is("all can have said it", x.spoke(true), 7);
        }
        for (int i = 0; i < 10; i++) {
            x.talk(0, 0);
        }
        due.is("of ten", x.talk(-1, 0), 0);
        due.is("of none", x.talk(-1, 0), 0);
        due.is("of nothing", new UnsaidWords().talk(-1, 499), 0);
    }

    private static void talkAnywhere(Due due) {
        UnsaidWords x = world();
        due.is("anywhere", x.talk(1, -1), 1);
        due.is("at 4 and at 9", x.spoke(true), 5);
        due.is("at 9", x.talk(1, 9), 2);
        due.is("at 9 alone", x.spoke(true), 4);
    }

    private static void talkHowMany(Due due) {
        UnsaidWords x = world();
        for (int i = 1; i <= 10; i++) {
            due.is("talk", x.talk(i % 3, i - 1), i);
            due.is("look(11)", x.look(11), i);
        }
    }

    private static void talkCannotBe(Due due) {
        UnsaidWords x = world();
        x.talk(0, -1);
        int[][] bad = {{3, 0}, {3, -1}, {-2, 0}, {-2, -1}, {14, 0}, {MIN, -1}, {MAX, -1}, {0, 10}, {0, -2}, {0, MIN}, {0, MAX}};
        for (int[] b : bad) {
            due.is("talk(" + b[0] + ", " + b[1] + ")", x.talk(b[0], b[1]), -1);
        }
        due.is("look(11)", x.look(11), 1);
        due.is("of nothing", new UnsaidWords().talk(0, -1), -1);
    }

    private static void talkTen(Due due) {
        UnsaidWords x = world();
        for (int i = 0; i < 10; i++) {
            due.is("talk", x.talk(0, -1), i + 1);
        }
        due.is("there are ten", x.talk(0, -1), -1);
        due.is("there are ten", x.talk(1, 9), -1);
        due.is("look(11)", x.look(11), 10);
        due.is("it is not told", x.spoke(true), 3);
        x.talk(-1, -1);
        due.is("there is room again", x.talk(1, 9), 1);
    }

    private static void spokeWho(Due due) {
        UnsaidWords x = world();
        due.is("all", x.spoke(true), 7);
        x.talk(1, -1);
        due.is("two", x.spoke(true), 5);
        x.talk(0, 4);
        due.is("one", x.spoke(true), 1);
        x.talk(2, -1);
        due.is("nobody has the LAPSED one", x.spoke(true), 0);
    }

    private static void spokeHear(Due due) {
        UnsaidWords x = world();
        due.is("two of three have 0", x.spoke(false), 0);
        x.talk(0, -1);
        due.is("one of two has 1", x.spoke(false), 1);
    }

    private static void fewerThanTwo(Due due) {
        UnsaidWords x = Due.made(new int[] {1});
        due.is("nobody", x.spoke(false), -1);
        x.person(0);
        due.is("one", x.spoke(false), -1);
        x.person(0);
        due.is("two", x.spoke(false), 0);
        x.teach(0, 0);
        x.talk(0, -1);
        due.is("one of two", x.spoke(false), -1);
        x.teach(1, 0);
        due.is("two of two", x.spoke(false), 0);
        x.talk(0, 5);
        due.is("nobody is there", x.spoke(false), -1);
    }

    private static void noWords(Due due) {
        UnsaidWords x = Due.made(new int[] {}, 0, 0, 0);
        due.is("no WORDS", x.spoke(false), -1);
        due.is("WHO", x.spoke(true), 7);
        x.word(1);
        due.is("one", x.spoke(false), 0);
    }

    private static void grasps(Due due) {
        UnsaidWords x = world();
        due.is("by WORD 1", x.grasps(0, 2), 1);
        due.is("by WORD 0 alone", x.grasps(0, 1), 0);
        x.teach(1, 1);
        due.is("one MEANING, two wordings", x.grasps(0, 1), 1);
        x.carve(2);
        x.teach(0, 2);
        x.teach(2, 2);
        due.is("two", x.grasps(2, 0), 2);
    }

    private static void graspsCannotBe(Due due) {
        UnsaidWords x = world();
        for (int bad : new int[] {-1, 3, 9, 10, MIN, MAX}) {
            due.is("grasps(" + bad + ", 0)", x.grasps(bad, 0), -1);
            due.is("grasps(0, " + bad + ")", x.grasps(0, bad), -1);
            due.is("grasps(" + bad + ", " + bad + ")", x.grasps(bad, bad), -1);
        }
        due.is("of nobody", new UnsaidWords().grasps(0, 0), -1);
    }

    private static void graspsAlike(Due due) {
        UnsaidWords x = world();
        due.is("grasps(0, 0)", x.grasps(0, 0), 1);
        due.is("grasps(1, 1)", x.grasps(1, 1), 0);
        due.is("grasps(2, 2)", x.grasps(2, 2), 1);
    }

    private static void circle(Due due) {
        UnsaidWords x = world();
        due.is("0 and 2", x.circle(0), 5);
        due.is("he alone", x.circle(1), 2);
        due.is("2 and 0", x.circle(2), 5);
    }

    private static void circleNoPerson(Due due) {
        UnsaidWords x = world();
        for (int bad : new int[] {-1, 3, 9, 10, 32, MIN, MAX}) {
            due.is("circle(" + bad + ")", x.circle(bad), -1);
        }
        due.is("of nobody", new UnsaidWords().circle(0), -1);
    }

    private static void odds(Due due) {
        UnsaidWords x = world();
        due.is("nobody chats", x.odds(60, 9), 0);
        x.set(0, 0, 100);
        due.is("odds(1, 1)", x.odds(1, 1), 100000);
        due.is("odds(3, 1)", x.odds(3, 1), 271000);
        due.is("odds(1, 0)", x.odds(1, 0), 0);
    }

    private static void oddsCannotBe(Due due) {
        UnsaidWords x = world();
        x.set(0, 0, 100);
        int[][] bad = {{0, 1}, {-1, 1}, {61, 1}, {MIN, 1}, {MAX, 1}, {1, -1}, {1, 10}, {1, MIN}, {1, MAX}, {0, 0}, {61, 10}};
        for (int[] b : bad) {
            due.is("odds(" + b[0] + ", " + b[1] + ")", x.odds(b[0], b[1]), -1);
        }
        due.is("odds(60, 9)", x.odds(60, 9) > 999990, true);
    }

    private static void school(Due due) {
        UnsaidWords x = world();
        due.is("school(1, 0)", x.school(1, 0), 1);
        due.is("school(1, 1)", x.school(1, 1), 2);
        due.is("school(0, 0)", x.school(0, 0), 0);
        due.is("school(0, 1)", x.school(0, 1), 0);
        x.carve(2);
        due.is("school(1, 0)", x.school(1, 0), 2);
        due.is("school(1, 1)", x.school(1, 1), 6);
    }

    private static void schoolNoPerson(Due due) {
        UnsaidWords x = world();
        for (int bad : new int[] {-1, 3, 9, 10, MIN, MAX}) {
            due.is("school(" + bad + ", 0)", x.school(bad, 0), -1);
            due.is("school(" + bad + ", 1)", x.school(bad, 1), -1);
        }
        due.is("of nobody", new UnsaidWords().school(0, 0), -1);
    }

    private static void schoolAnotherWhat(Due due) {
        UnsaidWords x = world();
        for (int bad : new int[] {-1, 2, 3, MIN, MAX}) {
            due.is("school(1, " + bad + ")", x.school(1, bad), -1);
        }
    }

    private static void verse(Due due) {
        UnsaidWords x = world();
        due.is("verse(0)", x.verse(0), 11);
        due.is("verse(1)", x.verse(1), 3);
        x.carve(2);
        due.is("0 and 2 are KIN: verse(0)", x.verse(0), 13);
        due.is("verse(1)", x.verse(1), 6);
        due.is("of nothing", new UnsaidWords().verse(0), 0);
        due.is("of nothing", new UnsaidWords().verse(1), 0);
    }

    private static void verseAnotherWhat(Due due) {
        UnsaidWords x = world();
        for (int bad : new int[] {-1, 2, 3, MIN, MAX}) {
            due.is("verse(" + bad + ")", x.verse(bad), -1);
        }
    }

    private static void boast(Due due) {
        UnsaidWords x = world();
        due.is("boast(0, 0)", x.boast(0, 0), 11);
        due.is("boast(0, 1)", x.boast(0, 1), 0);
        due.is("boast(2, 0)", x.boast(2, 0), 6);
        x.carve(2);
        x.teach(2, 2);
        due.is("boast(2, 0)", x.boast(2, 0), 7);
        due.is("boast(2, 1)", x.boast(2, 1), 1);
    }

    private static void boastNone(Due due) {
        UnsaidWords x = world();
        due.is("boast(1, 0)", x.boast(1, 0), -1);
        due.is("boast(1, 1)", x.boast(1, 1), -1);
        x.teach(1, 1);
        due.is("boast(1, 0)", x.boast(1, 0), 11);
        Due.tell(x, 0, "");
        due.is("no MEANINGS", x.boast(1, 0), -1);
    }

    private static void boastNoPerson(Due due) {
        UnsaidWords x = world();
        for (int bad : new int[] {-1, 3, 9, 10, MIN, MAX}) {
            due.is("boast(" + bad + ", 0)", x.boast(bad, 0), -1);
            due.is("boast(" + bad + ", 1)", x.boast(bad, 1), -1);
        }
        due.is("of nobody", new UnsaidWords().boast(0, 0), -1);
        UnsaidWords y = Due.made(new int[] {1}, 0, 0, 0, 0, 0, 0, 0, 0, 0, 0);
        due.is("of ten the eleventh", y.boast(10, 0), -1);
    }

    private static void boastAnotherWhat(Due due) {
        UnsaidWords x = world();
        for (int bad : new int[] {-1, 2, 3, MIN, MAX}) {
            due.is("boast(0, " + bad + ")", x.boast(0, bad), -1);
        }
    }

    private static void crowd(Due due) {
        UnsaidWords x = world();
        due.is("the PLACE", x.crowd(0), 4);
        due.is("how many", x.crowd(1), 2);
        due.is("WORDS", x.crowd(2), 1);
        x.move(0, 9);
        due.is("the PLACE", x.crowd(0), 9);
        x.move(1, 9);
        due.is("how many", x.crowd(1), 3);
        due.is("WORDS", x.crowd(2), 0);
    }

    private static void crowdNobody(Due due) {
        UnsaidWords x = Due.made(new int[] {1, 1, 1});
        due.is("the PLACE, of several the least", x.crowd(0), 0);
        due.is("how many", x.crowd(1), 0);
        due.is("nobody there: WORDS", x.crowd(2), 0);
        x.person(3);
        Due.teach(x, 7);
        due.is("somebody: WORDS", x.crowd(2), 3);
    }

    private static void crowdAnotherWhat(Due due) {
        UnsaidWords x = world();
        for (int bad : new int[] {-1, 3, 4, MIN, MAX}) {
            due.is("crowd(" + bad + ")", x.crowd(bad), -1);
        }
    }

    private static void silence(Due due) {
        UnsaidWords x = world();
        x.set(2, 0, 13);
        x.set(2, 1, 10);
        x.set(2, 2, 7);
        due.is("5 and 2: the WORD", x.silence(0), 0);
        due.is("how many are left", x.silence(1), 2);
    }

    private static void whoBeginsLoses(Due due) {
        UnsaidWords x = world();
        due.is("1 and 1", x.silence(0), -1);
        due.is("1 and 1", x.silence(1), -1);
        x.set(2, 0, 8);
        x.set(2, 1, 0);
        due.is("0 and 0", x.silence(0), -1);
        x.set(2, 0, 9);
        due.is("1 and 0", x.silence(0), 0);
        due.is("1 and 0", x.silence(1), 0);
        x.set(2, 1, 1);
        due.is("1 and 1", x.silence(1), -1);
        due.is("of nothing", new UnsaidWords().silence(0), -1);
    }

    private static void silenceAnotherWhat(Due due) {
        UnsaidWords x = world();
        x.set(2, 0, 3);
        for (int bad : new int[] {-1, 2, 3, MIN, MAX}) {
            due.is("silence(" + bad + ")", x.silence(bad), -1);
        }
        due.is("silence(0)", x.silence(0), 0);
    }

    private static void undo(Due due) {
        UnsaidWords x = world();
        String was = Due.all(x);
        x.move(0, 9);
        due.is("undo", x.undo(), true);
        due.is("as it was", Due.all(x).equals(was), true);
        x.days(2);
        due.is("undo", x.undo(), true);
        due.is("look(2)", x.look(2), 2);
        due.is("undo", x.undo(), true);
        due.is("as it was", Due.all(x).equals(was), true);
    }

    private static void undoNothing(Due due) {
        UnsaidWords x = new UnsaidWords();
        due.is("of nothing", x.undo(), false);
        x = world();
        String was = Due.all(x);
        due.is("all is forgotten", x.undo(), false);
        due.is("nothing is done", Due.all(x).equals(was), true);
        x.move(0, 9);
        x.undo();
        due.is("all is undone", x.undo(), false);
        due.is("nothing is done", Due.all(x).equals(was), true);
        for (int i = 0; i < 7; i++) {
            x.move(0, 5 + i % 2);
        }
        for (int i = 0; i < 6; i++) {
            due.is("undo", x.undo(), true);
        }
        due.is("six are undone", x.undo(), false);
        due.is("AT", x.who(0, 0), 5);
    }

    private static void image(Due due) {
        UnsaidWords x = world();
        due.is("taken", x.image(true), true);
        x.move(0, 9);
        due.is("gone back to", x.image(false), true);
        due.is("AT", x.who(0, 0), 4);
        x.move(0, 8);
        due.is("taken anew", x.image(true), true);
        x.move(0, 7);
        due.is("gone back to", x.image(false), true);
        due.is("AT", x.who(0, 0), 8);
        due.is("gone back to", x.image(false), true);
    }

    private static void noImage(Due due) {
        due.is("of nothing", new UnsaidWords().image(false), false);
        UnsaidWords x = world();
        x.move(0, 9);
        String was = Due.all(x);
        due.is("none", x.image(false), false);
        due.is("nothing is done, nothing forgotten", Due.all(x).equals(was), true);
        x.image(true);
        due.is("one", x.image(false), true);
        due.is("another object has none", new UnsaidWords().image(false), false);
    }

    private static void look(Due due) {
        UnsaidWords x = world();
        Due.tell(x, 1, "keep 5;hear 5;");
        Due.tell(x, 2, "on 9 0 rests;on 8 1 goes 3;on 7 2 rests;");
        x.set(0, 0, 321);
        x.state(-77);
        x.talk(0, 0);
        x.talk(1, -1);
        x.move(0, 5);
        x.move(0, 6);
        x.move(0, 7);
        x.move(0, 8);
        int[] want = {3, 3, 1, 321, 4, 9, -77, 2, 2, 3, 1, 2, 4, 1};
        for (int what = 0; what < 14; what++) {
            due.is("look(" + what + ")", x.look(what), want[what]);
        }
        x.carve(2);
        due.is("MEANINGS that can be said now", x.look(13), 3);
        due.is("those LAPSED", x.look(4), 0);
        UnsaidWords y = Due.made(new int[] {1, 1, 1, 1, 1, 1, 1, 1, 1, 1, 1, 1, 1, 1});
        Due.lapse(y, 16383);
        due.is("all LAPSED", y.look(4), 16383);
    }

    private static void lookAnotherWhat(Due due) {
        UnsaidWords x = world();
        for (int bad : new int[] {-1, 14, 15, MIN, MAX}) {
            due.is("look(" + bad + ")", x.look(bad), -1);
        }
    }

    private static void stateAsItIs(Due due) {
        UnsaidWords x = world();
        for (int v : new int[] {0, -1, 1, MIN, MAX, -2}) {
            x.state(v);
            due.is("look(6)", x.look(6), v);
            due.is("look changes it not", x.look(6), v);
        }
    }
}
