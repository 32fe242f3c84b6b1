/** Terms 4: what is found IN THOUGHT, UNDO and THE IMAGE. */
final class EdgesOfThought {
    static void tell(Edges edges) {
        edges.in("Terms 4");
        edges.of("IN THOUGHT (nothing of it stays; no DRAWS: nobody chats)", EdgesOfThought::nothingStays);
        edges.of("GOES for n (1 .. 400) DAYS: how many WORDS are LAPSED then; the first that LAPSES in these, its DAY", EdgesOfThought::goes);
        edges.of("MISSES: of NEEDS of DAYS from this one on, behind (c) of their DAY", EdgesOfThought::missesOfDays);
        edges.of("the first (by DAY, then number) whose MEANING can't be said any more (no wording without LAPSED WORDS)", EdgesOfThought::missesFirst);
        edges.of("the worth of all that can", EdgesOfThought::missesWorth);
        edges.of("WORDING of a MEANING: of those without LAPSED WORDS the one with the least LONG together", EdgesOfThought::wording);
        edges.of("(each as often as it stands there; of several the first): that, its number", EdgesOfThought::wordingOfSeveral);
        edges.of("GO: the most WORDS (not LAPSED) that could LAPSE, no MEANING being lost that can be said now: how many", EdgesOfThought::go);
        edges.of("the set (of several the least). COIN", EdgesOfThought::goOfSeveral);
        edges.of("COIN: the fewest LAPSED WORDS to be carved so that all MEANINGS can be said: how many", EdgesOfThought::coin);
        edges.of("all MEANINGS can be said: how many; the set (of several the least)", EdgesOfThought::coinOfSeveral);
        tellPeople(edges);
        tellTalk(edges);
        tellRest(edges);
        tellUndo(edges);
    }

    private static void tellPeople(Edges edges) {
        edges.of("KEEPERS: the fewest PEOPLE in whose TONGUES together are all WORDS that are in some: how many", EdgesOfThought::keepers);
        edges.of("that are in some: how many; the set (of several the least)", EdgesOfThought::keepersOfSeveral);
        edges.of("COSTS of a PERSON: how many WORDS are in that TONGUE alone", EdgesOfThought::costs);
        edges.of("DEAREST: the one of whom that is most; of several the least", EdgesOfThought::dearest);
        edges.of("ROUND of a PERSON for a set of PLACES: the fewest MILES from where he is AT to all of them, in some order (not back)", EdgesOfThought::round);
        edges.of("the order: of several the first (the lesser PLACE ahead)", EdgesOfThought::roundOfSeveral);
        edges.of("QUARREL of PEOPLE a, b: how many WORDS both have", EdgesOfThought::quarrel);
        edges.of("of these n (1 .. 6) with the greatest sum of UNSAID (of several the least set): that sum; the set", EdgesOfThought::quarrelOfSeveral);
    }

    private static void tellTalk(Edges edges) {
        edges.of("TALK, up to 10 told", EdgesOfThought::talkMost);
        edges.of("somebody said a WORD at a PLACE, or (not so told) anywhere", EdgesOfThought::talkAnywhere);
        edges.of("WHO: PEOPLE who can have said all of it (in whose TONGUE each is; AT that PLACE now, if told): a set", EdgesOfThought::who);
        edges.of("HEAR: the WORD for which of WHO those who have it and those who have not: the greater number is least", EdgesOfThought::hear);
        edges.of("the greater number is least; of several the least", EdgesOfThought::hearOfSeveral);
        edges.of("GRASPS of PEOPLE a, b: how many MEANINGS have a wording of which all WORDS are in both TONGUES", EdgesOfThought::grasps);
        edges.of("CIRCLE of a PERSON: he, all of whom GRASPS with him is above 0, all of whom it is with one of these, and so on: a set", EdgesOfThought::circle);
    }

    private static void tellRest(Edges edges) {
        edges.of("ODDS of n (1 .. 60) days and k (0 .. 9) PEOPLE", EdgesOfThought::oddsBounds);
        edges.of("of a million, that one of them chats in these: a million less what is left of a million, k times n times as much as (1000 less CHAT) by 1000 of it", EdgesOfThought::odds);
        edges.of("downwards each time", EdgesOfThought::oddsDownwards);
        edges.of("SCHOOL of a PERSON: the fewest WORDS (not LAPSED) to be taught him so that he has a wording of each MEANING that can be said now: how many", EdgesOfThought::school);
        edges.of("each MEANING that can be said now: how many; the set (of several the least)", EdgesOfThought::schoolOfSeveral);
        edges.of("VERSE: WORDS not LAPSED, no two of them KIN, with the greatest LONG together: that", EdgesOfThought::verse);
        edges.of("with the greatest LONG together: that; the set (of several the least)", EdgesOfThought::verseOfSeveral);
        edges.of("BOAST of a PERSON: of all wordings of all MEANINGS of which all WORDS are in that TONGUE the greatest LONG together (as often as they stand there)", EdgesOfThought::boast);
        edges.of("the MEANING (of several the least)", EdgesOfThought::boastOfSeveral);
        edges.of("CROWD: the PLACE where most PEOPLE are (of several the least)", EdgesOfThought::crowd);
        edges.of("how many; how many WORDS are in all of their TONGUES", EdgesOfThought::crowdWords);
        edges.of("SILENCE: from heaps of UNSAID of WORDS not LAPSED modulo 8 two by turns take one or more of one; who takes the last one wins", EdgesOfThought::silence);
        edges.of("the WORD (of several the least), how many are left of its heap by who begins well", EdgesOfThought::silenceOfSeveral);
    }

    private static void tellUndo(Edges edges) {
        edges.of("UNDO: the latest DAY, SAYING, MOVE, TEACHING, CARVING not undone yet goes back (STATE, THE BOOK, too)", EdgesOfThought::undo);
        edges.of("6 are kept", EdgesOfThought::undoMost);
        edges.of("whatever else is told but THE LAW, MEANINGS, NEEDS, TALK (the taking of THE IMAGE does not) forgets them", EdgesOfThought::undoForgets);
        edges.of("THE IMAGE: all that is and was told", EdgesOfThought::image);
        edges.of("but the TAPE, fault() and what can be undone (nothing then)", EdgesOfThought::imageWithout);
        edges.of("as it was when it was taken", EdgesOfThought::imageAsTaken);
        edges.of("gone back to it may be more than once", EdgesOfThought::imageMoreThanOnce);
        edges.of("The constants: `NONE = -1`: None", due -> due.is("NONE", UnsaidWords.NONE, -1));
    }

    private static void nothingStays(Due due) {
        UnsaidWords x = Due.made(new int[] {1, 2, 3}, 0, 0, 1);
        Due.teach(x, 7, 7, 1);
        x.kin(0, 1, true);
        x.set(0, 0, 1000);
        x.state(77);
        Due.tell(x, 0, "means 0;means 1 2;");
        Due.tell(x, 1, "keep 3;hear 1;");
        Due.tell(x, 2, "on 0 0 says 0;on 1 1 goes 4;on 1 2 rests;");
        Due.tell(x, 3, "need 0 by 1 worth 5;need 1 by 9 worth 6;");
        x.move(2, 8);
        String was = Due.all(x);
        due.is("goes", x.goes(400, 0), 3);
        due.is("nothing of goes stays", Due.all(x).equals(was), true);
        due.is("misses", x.misses(1), 5);
        due.is("nothing of misses stays", Due.all(x).equals(was), true);
        for (int what = 0; what < 4; what++) {
            x.go(what);
            x.keepers(what);
            x.school(0, what);
            x.silence(what);
        }
        x.round(0, 63, 15);
        due.is("nothing of the others stays", Due.all(x).equals(was), true);
        UnsaidWords y = Due.made(new int[] {1, 1}, 0);
        Due.teach(y, 3);
        Due.tell(y, 0, "means 0;");
        Due.tell(y, 1, "keep 2;hear 0;");
        Due.tell(y, 3, "need 0 by 1 worth 5;");
        y.set(0, 0, 1000);
        due.is("nobody chats in goes", y.goes(2, 0), 2);
        due.is("nobody chats in misses", y.misses(1), 0);
        y.days(2);
        due.is("he does in days, and keeps WORD 0", y.look(4), 2);
        int state = 0;
        while (((state * 1664525 + 1013904223) >>> 8) % 1000 != 0) {
            state++;
        }
        UnsaidWords z = Due.made(new int[] {1}, 0);
        z.teach(0, 0);
        Due.tell(z, 1, "keep 2;hear 0;");
        z.set(2, 0, 5);
        z.set(0, 0, 1);
        z.state(state);
        due.is("nobody chats, though the DRAW would be 0", z.goes(1, 0), 1);
        due.is("he does in days", z.days(1), 0);
    }

    private static void goes(Due due) {
        UnsaidWords x = Due.made(new int[] {1, 1, 1}, 0);
        due.is("goes(1, 0)", x.goes(1, 0), 0);
        due.is("goes(1, 1)", x.goes(1, 1), -1);
        due.is("goes(364, 0)", x.goes(364, 0), 0);
        due.is("goes(365, 0)", x.goes(365, 0), 3);
        due.is("goes(365, 1)", x.goes(365, 1), 0);
        due.is("goes(365, 2)", x.goes(365, 2), 364);
        due.is("goes(400, 0)", x.goes(400, 0), 3);
        due.is("goes(0, 0)", x.goes(0, 0), -2);
        due.is("goes(401, 0)", x.goes(401, 0), -2);
        Due.lapse(x, 1);
        due.is("one is LAPSED ahead", x.goes(1, 0), 1);
        due.is("it is not the first in these", x.goes(1, 1), -1);
        due.is("nor its DAY", x.goes(1, 2), -1);
        Due.tell(x, 1, "keep 4 when word=1;keep 3;");
        due.is("two", x.goes(2, 0), 2);
        due.is("the first", x.goes(400, 1), 2);
        due.is("its DAY", x.goes(400, 2), 2);
        due.is("all", x.goes(3, 0), 3);
        Due.tell(x, 1, "keep 1 when word=1;keep 400;");
        due.is("on this DAY", x.goes(1, 2), 1);
        due.is("the first", x.goes(1, 1), 1);
        due.is("UNSAID 1 and 398 days more", x.goes(398, 0), 2);
        due.is("and 399", x.goes(399, 0), 3);
        goesByAll(due);
        goesAtTheLastDay(due);
    }

    /** The WORD LAPSES on DAY 9999 itself; of DAYS behind it the document tells nothing (NOTES.md). */
    private static void goesAtTheLastDay(Due due) {
        UnsaidWords x = Due.made(new int[] {1}, 0);
        Due.tell(x, 1, "keep 9999;");
        for (int i = 0; i < 166; i++) {
            x.days(60);
        }
        x.days(37);
        due.is("goes(1, 0) on DAY 9997", x.goes(1, 0), 0);
        due.is("goes(400, 2)", x.goes(400, 2), 9998);
        x.set(2, 0, 9997);
        x.days(2);
        x.carve(0);
        x.set(2, 0, 9998);
        due.is("goes(1, 0) on DAY 9999", x.goes(1, 0), 1);
        due.is("goes(1, 1)", x.goes(1, 1), 0);
        due.is("goes(1, 2)", x.goes(1, 2), 9999);
        due.is("goes(400, 2)", x.goes(400, 2), 9999);
        due.is("nothing of it stays", x.look(2), 9999);
    }

    /** By all that is and was told: WALKS and what comes of them, LONG, KIN, AT, BREATH, THE LAW. */
    private static void goesByAll(Due due) {
        UnsaidWords x = Due.made(new int[] {9, 6, 7}, 0, 0, 3);
        Due.teach(x, 3, 0, 3);
        x.kin(0, 1, true);
        Due.tell(x, 1, "keep long;hear 1;");
        due.is("by LONG", x.goes(20, 1), 1);
        due.is("its DAY", x.goes(20, 2), 5);
        Due.tell(x, 2, "on 1 0 goes 3;on 4 0 says 0;");
        due.is("UNSAID 4 halved, by a KIN one that is HEARD", x.goes(20, 1), 2);
        due.is("its DAY", x.goes(20, 2), 6);
        due.is("then", x.goes(7, 0), 1);
        due.is("then", x.goes(8, 0), 2);
        x.set(1, 0, 0);
        due.is("BREATH 20 is enough", x.goes(20, 1), 2);
        Due.tell(x, 2, "on 1 0 goes 3;on 1 0 says 0;");
        due.is("BREATH 5 is not enough for LONG 9", x.goes(20, 1), 1);
    }

    private static void missesOfDays(Due due) {
        UnsaidWords x = Due.made(new int[] {1, 1}, 0);
        Due.tell(x, 0, "means 0;means 1;");
        Due.tell(x, 3, "need 0 by 0 worth 1;need 0 by 1 worth 2;need 0 by 2 worth 4;need 0 by 3 worth 8;");
        Due.tell(x, 1, "keep 3;");
        due.is("DAY 2 is behind its (c), when it LAPSES", x.misses(1), 3);
        due.is("the first", x.misses(0), 2);
        Due.tell(x, 1, "keep 4;");
        due.is("a day later", x.misses(1), 7);
        x.days(2);
        due.is("from DAY 2 on", x.misses(1), 4);
        due.is("the first", x.misses(0), 3);
        x.days(1);
        due.is("from DAY 3 on", x.misses(1), 0);
        due.is("the first", x.misses(0), 3);
        x.days(1);
        due.is("no NEEDS from DAY 4 on", x.misses(1), 0);
        due.is("none", x.misses(0), -1);
    }

    private static void missesFirst(Due due) {
        UnsaidWords x = Due.made(new int[] {1, 1, 1}, 0);
        Due.tell(x, 0, "means 0 or 1;means 2;means 0 1;");
        Due.tell(x, 3, "need 0 by 9 worth 1;need 2 by 9 worth 1;need 2 by 5 worth 1;need 2 by 5 worth 1;");
        due.is("none", x.misses(0), -1);
        Due.tell(x, 1, "keep 6 when word=0;");
        due.is("by DAY, then number", x.misses(0), 2);
        Due.tell(x, 1, "keep 7 when word=0;");
        due.is("MEANING 0 has a wording left", x.misses(0), 1);
        Due.tell(x, 1, "keep 7;");
        due.is("it has none", x.misses(0), 0);
        Due.tell(x, 1, "keep 1 when word=2;");
        due.is("no NEED of it", x.misses(0), -1);
    }

    private static void missesWorth(Due due) {
        UnsaidWords x = Due.made(new int[] {1, 1}, 0);
        due.is("no NEEDS", x.misses(1), 0);
        Due.tell(x, 0, "means 0;means 1;");
        StringBuilder needs = new StringBuilder();
        for (int i = 0; i < 12; i++) {
            needs.append("need ").append(i % 2).append(" by ").append(i).append(" worth 99;");
        }
        Due.tell(x, 3, needs.toString());
        due.is("all", x.misses(1), 1188);
        Due.tell(x, 1, "keep 1 when word=1;");
        due.is("half of them", x.misses(1), 594);
        Due.tell(x, 1, "keep 1;");
        due.is("none", x.misses(1), 0);
    }

    private static void wording(Due due) {
        UnsaidWords x = Due.made(new int[] {9, 3, 4, 20});
        Due.tell(x, 0, "means 0 or 1 2 or 3;means 3;");
        due.is("the least LONG", x.wording(0, 0), 7);
        due.is("its number", x.wording(0, 1), 1);
        Due.lapse(x, 4);
        due.is("without LAPSED WORDS", x.wording(0, 0), 9);
        due.is("its number", x.wording(0, 1), 0);
        Due.lapse(x, 1);
        due.is("the last", x.wording(0, 0), 20);
        due.is("its number", x.wording(0, 1), 2);
        Due.lapse(x, 8);
        due.is("none", x.wording(0, 0), -1);
        due.is("none", x.wording(1, 1), -1);
    }

    private static void wordingOfSeveral(Due due) {
        UnsaidWords x = Due.made(new int[] {6, 3, 2, 1});
        Due.tell(x, 0, "means 2 2 2 2 or 0 or 1 1 or 2 2 2;means 0 3 or 1 2 2;means 3 3 3 3 3 3 or 2 2 2;");
        due.is("the first of three", x.wording(0, 1), 1);
        due.is("LONG", x.wording(0, 0), 6);
        due.is("the first of two", x.wording(1, 1), 0);
        due.is("LONG", x.wording(1, 0), 7);
        due.is("six times the same", x.wording(2, 0), 6);
        due.is("the first", x.wording(2, 1), 0);
        Due.lapse(x, 1);
        due.is("the first without LAPSED WORDS", x.wording(0, 1), 2);
        due.is("LONG", x.wording(1, 0), 7);
        due.is("the other one", x.wording(1, 1), 1);
    }

    private static void go(Due due, UnsaidWords x, int... want) {
        for (int what = 0; what < 4; what++) {
            due.is("go(" + what + ")", x.go(what), want[what]);
        }
    }

    private static void go(Due due) {
        go(due, new UnsaidWords(), 0, 0, 0, 0);
        UnsaidWords x = Due.made(new int[] {1, 1, 1, 1});
        go(due, x, 4, 15, 0, 0);
        Due.tell(x, 0, "means 0 1;means 2;");
        go(due, x, 1, 8, 0, 0);
        Due.tell(x, 0, "means 0 1 2 3;");
        go(due, x, 0, 0, 0, 0);
        Due.lapse(x, 2);
        due.is("what is lost ahead is not lost: go(0)", x.go(0), 3);
        due.is("not the LAPSED one: go(1)", x.go(1), 13);
        Due.tell(x, 0, "means 0 or 1;means 1;");
        due.is("go(0)", x.go(0), 2);
        due.is("go(1)", x.go(1), 12);
        StringBuilder all = new StringBuilder("means");
        UnsaidWords y = Due.made(new int[] {1, 1, 1, 1, 1, 1, 1, 1, 1, 1, 1, 1, 1, 1});
        go(due, y, 14, 16383, 0, 0);
        Due.tell(y, 0, all + " 13;" + all + " 0;");
        go(due, y, 12, 8190, 0, 0);
    }

    private static void goOfSeveral(Due due) {
        UnsaidWords x = Due.made(new int[] {1, 1, 1, 1});
        Due.tell(x, 0, "means 0 or 1;means 2 or 3;");
        due.is("go(0)", x.go(0), 2);
        due.is("0 and 2, of four sets the least", x.go(1), 5);
        Due.tell(x, 0, "means 3 or 0;means 1;");
        due.is("go(0)", x.go(0), 2);
        due.is("0 and 2, not 2 and 3", x.go(1), 5);
        Due.tell(x, 0, "means 0 or 1 or 2 or 3;");
        due.is("go(1)", x.go(1), 7);
    }

    private static void coin(Due due) {
        UnsaidWords x = Due.made(new int[] {1, 1, 1, 1});
        Due.tell(x, 0, "means 0 1;means 2 or 3;means 3;");
        due.is("none", x.go(2), 0);
        due.is("none", x.go(3), 0);
        Due.lapse(x, 1);
        due.is("one", x.go(2), 1);
        due.is("it", x.go(3), 1);
        Due.lapse(x, 4);
        due.is("2 is not needed", x.go(3), 1);
        Due.lapse(x, 2 | 8);
        due.is("3 is needed by two", x.go(2), 3);
        due.is("the set", x.go(3), 11);
        Due.tell(x, 0, "");
        due.is("no MEANINGS", x.go(2), 0);
    }

    private static void coinOfSeveral(Due due) {
        UnsaidWords x = Due.made(new int[] {1, 1, 1, 1});
        Due.lapse(x, 15);
        Due.tell(x, 0, "means 3 or 1;means 2 or 1 or 3;");
        due.is("one for both", x.go(2), 1);
        due.is("of several the least", x.go(3), 2);
        Due.tell(x, 0, "means 3 2 or 0 1;");
        due.is("two", x.go(2), 2);
        due.is("of several the least", x.go(3), 3);
        Due.tell(x, 0, "means 0 1 or 3;");
        due.is("fewer ahead of less", x.go(3), 8);
    }

    private static void keepers(Due due) {
        UnsaidWords x = Due.made(new int[] {1, 1, 1});
        due.is("nobody", x.keepers(0), 0);
        due.is("nobody", x.keepers(1), 0);
        for (int p = 0; p < 4; p++) {
            x.person(p);
        }
        due.is("no WORDS", x.keepers(0), 0);
        due.is("no WORDS", x.keepers(1), 0);
        Due.teach(x, 1, 2, 0, 3);
        due.is("one has all that are in some", x.keepers(0), 1);
        due.is("he", x.keepers(1), 8);
        x.teach(2, 2);
        due.is("two", x.keepers(0), 2);
        due.is("they", x.keepers(1), 12);
        UnsaidWords y = Due.made(new int[] {1, 1, 1, 1, 1, 1, 1, 1, 1, 1}, 0, 1, 2, 3, 4, 5, 6, 7, 8, 9);
        for (int p = 0; p < 10; p++) {
            y.teach(p, 9 - p);
        }
        due.is("all ten", y.keepers(0), 10);
        due.is("all ten", y.keepers(1), 1023);
    }

    private static void keepersOfSeveral(Due due) {
        UnsaidWords x = Due.made(new int[] {1, 1, 1}, 0, 0, 0, 0);
        Due.teach(x, 0, 4, 4, 4);
        due.is("of three the least", x.keepers(1), 2);
        x.teach(3, 0);
        x.teach(2, 1);
        due.is("2 and 3", x.keepers(1), 12);
        x.teach(0, 0);
        due.is("0 and 2", x.keepers(1), 5);
        x.teach(1, 1);
        due.is("0 and 1", x.keepers(1), 3);
    }

    private static void costs(Due due) {
        UnsaidWords x = Due.made(new int[] {1, 1, 1, 1}, 0, 0);
        due.is("none", x.costs(0), 0);
        Due.teach(x, 15, 0);
        due.is("all are his alone", x.costs(0), 4);
        due.is("none", x.costs(1), 0);
        x.teach(1, 3);
        due.is("three are", x.costs(0), 3);
        due.is("none", x.costs(1), 0);
        Due.lapse(x, 1);
        due.is("LAPSED ones are in no TONGUE", x.costs(0), 2);
    }

    private static void dearest(Due due) {
        UnsaidWords x = Due.made(new int[] {1, 1, 1, 1}, 0, 0, 0);
        due.is("of none the least", x.keepers(2), 0);
        x.teach(1, 0);
        due.is("one WORD alone", x.keepers(2), 1);
        x.teach(2, 1);
        due.is("of several the least", x.keepers(2), 1);
        x.teach(2, 2);
        due.is("most", x.keepers(2), 2);
        x.teach(0, 1);
        x.teach(0, 2);
        due.is("only what is in that TONGUE alone", x.keepers(2), 1);
        x.teach(0, 3);
        due.is("of several the least", x.keepers(2), 0);
    }

    private static void round(Due due, UnsaidWords x, int places, int miles, int... order) {
        due.is("round(0, " + places + ", 0)", x.round(0, places, 0), miles);
        for (int i = 0; i < order.length; i++) {
            due.is("round(0, " + places + ", " + (10 + i) + ")", x.round(0, places, 10 + i), order[i]);
        }
    }

    private static void round(Due due) {
        UnsaidWords x = Due.made(new int[] {}, 4, 0);
        round(due, x, 0, 0);
        round(due, x, 16, 0, 4);
        round(due, x, 1, 10, 0);
        x.miles(4, 1, 20);
        round(due, x, 2, 20, 1);
        x.miles(1, 4, 99);
        x.miles(1, 2, 1);
        round(due, x, 6, 11, 2, 1);
        x.miles(4, 2, 3);
        x.miles(2, 3, 50);
        x.miles(4, 3, 30);
        x.miles(3, 1, 4);
        round(due, x, 2 | 4 | 8, 8, 2, 1, 3);
        x.miles(3, 5, 2);
        x.miles(5, 6, 2);
        x.miles(6, 7, 2);
        round(due, x, 2 | 4 | 8 | 32 | 64 | 128, 14, 2, 1, 3, 5, 6, 7);
        x.move(0, 7);
        round(due, x, 2 | 4 | 8 | 32 | 64 | 128, 11, 7, 6, 5, 3, 1, 2);
        due.is("from where another is AT", x.round(1, 1 | 128, 0), 10);
        due.is("from where another is AT", x.round(1, 1, 0), 0);
    }

    private static void roundOfSeveral(Due due) {
        UnsaidWords x = Due.made(new int[] {}, 5);
        round(due, x, 1 | 2 | 512, 30, 0, 1, 9);
        round(due, x, 1 | 32, 10, 5, 0);
        x.miles(5, 1, 0);
        round(due, x, 2 | 32, 0, 1, 5);
        x.miles(5, 0, 12);
        round(due, x, 1 | 512, 20, 9, 0);
        x.miles(5, 9, 12);
        round(due, x, 1 | 512, 22, 0, 9);
        x.miles(0, 1, 5);
        round(due, x, 1 | 2 | 512, 15, 1, 0, 9);
        x.miles(9, 1, 5);
        round(due, x, 1 | 2 | 512, 15, 1, 0, 9);
        x.miles(0, 9, 5);
        round(due, x, 1 | 2 | 512, 10, 1, 0, 9);
    }

    private static void quarrel(Due due) {
        UnsaidWords x = Due.made(new int[] {1, 1, 1, 1}, 0, 9);
        due.is("none", x.quarrel(0, 1, 1, 0), 0);
        Due.teach(x, 7, 14);
        due.is("two", x.quarrel(0, 1, 1, 0), 2);
        due.is("two", x.quarrel(1, 0, 6, 0), 2);
        x.teach(0, 3);
        x.teach(1, 0);
        due.is("all", x.quarrel(0, 1, 1, 0), 4);
        Due.lapse(x, 8);
        due.is("not the LAPSED one", x.quarrel(0, 1, 1, 0), 3);
    }

    private static void quarrelOfSeveral(Due due) {
        UnsaidWords x = Due.made(new int[] {1, 1, 1, 1, 1, 1, 1}, 0, 0);
        Due.teach(x, 126, 127);
        int[] unsaid = {9999, 4, 9, 4, 9999, 0, 9};
        for (int w = 0; w < 7; w++) {
            x.set(2, w, unsaid[w]);
        }
        int[][] want = {{9999, 16}, {10008, 20}, {10017, 84}, {10021, 86}, {10025, 94}, {10025, 126}};
        for (int n = 1; n <= 6; n++) {
            due.is("the sum of " + n, x.quarrel(0, 1, n, 1), want[n - 1][0]);
            due.is("the set of " + n, x.quarrel(0, 1, n, 2), want[n - 1][1]);
        }
        due.is("n is 0", x.quarrel(0, 1, 0, 1), -1);
        due.is("n is 7", x.quarrel(0, 1, 7, 1), -1);
        x.teach(0, 0);
        due.is("both have seven, n is 7", x.quarrel(0, 1, 7, 1), -1);
        due.is("the sum of 2", x.quarrel(0, 1, 2, 1), 19998);
        due.is("the set of 1", x.quarrel(0, 1, 1, 2), 1);
    }

    private static void talkMost(Due due) {
        UnsaidWords x = Due.made(new int[] {1, 1}, 0, 0);
        Due.teach(x, 1, 3);
        due.is("none", x.look(11), 0);
        for (int i = 1; i <= 9; i++) {
            due.is("talk", x.talk(0, -1), i);
        }
        due.is("the tenth", x.talk(1, 0), 10);
        due.is("the tenth is asked", x.spoke(true), 2);
        due.is("the eleventh", x.talk(0, 5), -1);
        due.is("look(11)", x.look(11), 10);
        due.is("it is not asked", x.spoke(true), 2);
    }

    private static void talkAnywhere(Due due) {
        UnsaidWords x = Due.made(new int[] {1}, 0, 9);
        Due.teach(x, 1, 1);
        x.talk(0, -1);
        due.is("anywhere", x.spoke(true), 3);
        x.talk(0, 0);
        due.is("at PLACE 0", x.spoke(true), 1);
        x.talk(-1, -1);
        x.talk(0, 9);
        due.is("at PLACE 9", x.spoke(true), 2);
    }

    private static void who(Due due) {
        UnsaidWords x = Due.made(new int[] {1, 1, 1}, 0, 0, 3, 3);
        due.is("nothing told: all", x.spoke(true), 15);
        Due.teach(x, 3, 1, 7, 2);
        x.talk(0, -1);
        due.is("WORD 0", x.spoke(true), 7);
        x.talk(1, -1);
        due.is("WORDS 0, 1", x.spoke(true), 5);
        x.talk(1, 3);
        due.is("at PLACE 3", x.spoke(true), 4);
        x.move(2, 0);
        due.is("AT that PLACE now", x.spoke(true), 0);
        x.move(0, 3);
        due.is("AT that PLACE now", x.spoke(true), 1);
        x.talk(0, 4);
        due.is("at two PLACES: nobody", x.spoke(true), 0);
        UnsaidWords y = Due.made(new int[] {1}, 0, 0, 0, 0, 0, 0, 0, 0, 0, 0);
        due.is("all ten", y.spoke(true), 1023);
        due.is("nobody at all", new UnsaidWords().spoke(true), 0);
    }

    private static void hear(Due due) {
        UnsaidWords x = Due.made(new int[] {1, 1, 1, 1}, 0, 0, 0, 0, 0);
        Due.teach(x, 15, 13, 5, 4, 4);
        due.is("3 of 5, 1 of 5, 5 of 5, 2 of 5", x.spoke(false), 0);
        x.talk(0, -1);
        due.is("of 3: 3, 1, 3, 2", x.spoke(false), 1);
        x.talk(3, -1);
        due.is("of 2: 2, 1, 2, 2", x.spoke(false), 1);
        x.teach(1, 1);
        due.is("of 2: both have each", x.spoke(false), 0);
        x.talk(-1, -1);
        x.teach(3, 0);
        due.is("of 5: 4, 2, 5, 2", x.spoke(false), 1);
    }

    private static void hearOfSeveral(Due due) {
        UnsaidWords x = Due.made(new int[] {1, 1, 1, 1}, 0, 0, 0);
        due.is("nobody has one", x.spoke(false), 0);
        x.teach(0, 3);
        due.is("one of three", x.spoke(false), 3);
        x.teach(0, 2);
        x.teach(1, 2);
        due.is("two of three as well", x.spoke(false), 2);
        x.teach(2, 1);
        due.is("of three the least", x.spoke(false), 1);
        for (int p = 0; p < 3; p++) {
            x.teach(p, 0);
        }
        due.is("all have it", x.spoke(false), 1);
    }

    private static void grasps(Due due) {
        UnsaidWords x = Due.made(new int[] {1, 1, 1}, 0, 9, 0);
        Due.teach(x, 3, 7, 0);
        due.is("no MEANINGS", x.grasps(0, 1), 0);
        Due.tell(x, 0, "means 0 1 or 0;means 2 or 1;means 2;means 0 2;");
        due.is("two", x.grasps(0, 1), 2);
        due.is("two", x.grasps(1, 0), 2);
        due.is("all", x.grasps(1, 1), 4);
        due.is("with himself", x.grasps(0, 0), 2);
        due.is("none", x.grasps(0, 2), 0);
        x.teach(2, 2);
        due.is("two by WORD 2", x.grasps(2, 1), 2);
    }

    private static void circle(Due due) {
        UnsaidWords x = Due.made(new int[] {1, 1, 1, 1}, 0, 1, 2, 3, 4);
        due.is("he alone", x.circle(3), 8);
        Due.tell(x, 0, "means 0;means 1;means 2;means 3;");
        Due.teach(x, 1, 3, 6, 12, 0);
        for (int p = 0; p < 4; p++) {
            due.is("and so on", x.circle(p), 15);
        }
        due.is("he, though he says nothing", x.circle(4), 16);
        Due.tell(x, 0, "means 0;means 2;");
        due.is("0 and 1", x.circle(0), 3);
        due.is("0 and 1", x.circle(1), 3);
        due.is("2 and 3", x.circle(3), 12);
        UnsaidWords y = Due.made(new int[] {1, 1, 1, 1, 1, 1, 1, 1, 1}, 0, 0, 0, 0, 0, 0, 0, 0, 0, 0);
        StringBuilder meanings = new StringBuilder();
        for (int w = 0; w < 9; w++) {
            y.teach(w, w);
            y.teach(w + 1, w);
            meanings.append("means ").append(w).append(';');
        }
        Due.tell(y, 0, meanings.toString());
        due.is("ten in a chain", y.circle(0), 1023);
        due.is("ten in a chain", y.circle(9), 1023);
    }

    private static void oddsBounds(Due due) {
        UnsaidWords x = new UnsaidWords();
        x.set(0, 0, 1000);
        due.is("odds(1, 1)", x.odds(1, 1), 1000000);
        due.is("odds(60, 9)", x.odds(60, 9), 1000000);
        due.is("nobody: odds(1, 0)", x.odds(1, 0), 0);
        due.is("nobody: odds(60, 0)", x.odds(60, 0), 0);
        due.is("odds(0, 1)", x.odds(0, 1), -1);
        due.is("odds(61, 1)", x.odds(61, 1), -1);
        due.is("odds(1, -1)", x.odds(1, -1), -1);
        due.is("odds(1, 10)", x.odds(1, 10), -1);
    }

    private static void odds(Due due) {
        UnsaidWords x = new UnsaidWords();
        due.is("CHAT 0", x.odds(60, 9), 0);
        x.set(0, 0, 500);
        due.is("odds(1, 1)", x.odds(1, 1), 500000);
        due.is("odds(2, 1)", x.odds(2, 1), 750000);
        due.is("odds(1, 2)", x.odds(1, 2), 750000);
        due.is("odds(2, 3)", x.odds(2, 3), 984375);
        x.set(0, 0, 999);
        due.is("odds(1, 1)", x.odds(1, 1), 999000);
        due.is("odds(1, 2)", x.odds(1, 2), 999999);
        due.is("odds(1, 3)", x.odds(1, 3), 1000000);
        x.set(0, 0, 1000);
        due.is("CHAT 1000", x.odds(1, 1), 1000000);
    }

    private static void oddsDownwards(Due due) {
        for (int chat : new int[] {1, 3, 7, 333, 501}) {
            UnsaidWords x = new UnsaidWords();
            x.set(0, 0, chat);
            long left = 1000000;
            for (int n = 1; n <= 60; n++) {
                for (int k = 0; k < 9; k++) {
                    left = (left * (1000 - chat) - left * (1000 - chat) % 1000) / 1000;
                }
                due.is("odds(" + n + ", 9) by CHAT " + chat, x.odds(n, 9), 1000000 - left);
            }
        }
    }

    private static void school(Due due, UnsaidWords x, int person, int many, int set) {
        due.is("school(" + person + ", 0)", x.school(person, 0), many);
        due.is("school(" + person + ", 1)", x.school(person, 1), set);
    }

    private static void school(Due due) {
        UnsaidWords x = Due.made(new int[] {1, 1, 1, 1}, 0, 0);
        school(due, x, 0, 0, 0);
        Due.teach(x, 0, 15);
        Due.tell(x, 0, "means 0 1;means 2 or 3;");
        school(due, x, 0, 3, 7);
        school(due, x, 1, 0, 0);
        x.teach(0, 3);
        school(due, x, 0, 2, 3);
        Due.lapse(x, 1);
        school(due, x, 0, 0, 0);
        x.teach(0, 1);
        Due.tell(x, 0, "means 0 or 1 2 3;means 0;");
        school(due, x, 0, 1, 4);
        x.carve(0);
        school(due, x, 0, 1, 1);
    }

    private static void schoolOfSeveral(Due due) {
        UnsaidWords x = Due.made(new int[] {1, 1, 1, 1}, 0);
        Due.tell(x, 0, "means 3 or 2 or 1;");
        school(due, x, 0, 1, 2);
        Due.tell(x, 0, "means 3 or 1;means 2 or 0;");
        school(due, x, 0, 2, 3);
        Due.tell(x, 0, "means 0 1 or 3;");
        school(due, x, 0, 1, 8);
        x.teach(0, 1);
        school(due, x, 0, 1, 1);
    }

    private static void verse(Due due, UnsaidWords x, int lasting, int set) {
        due.is("verse(0)", x.verse(0), lasting);
        due.is("verse(1)", x.verse(1), set);
    }

    private static void verse(Due due) {
        verse(due, new UnsaidWords(), 0, 0);
        UnsaidWords x = Due.made(new int[] {7, 9, 3, 20});
        verse(due, x, 39, 15);
        x.kin(0, 1, true);
        verse(due, x, 32, 14);
        x.kin(1, 3, true);
        verse(due, x, 30, 13);
        x.kin(3, 0, true);
        x.kin(3, 2, true);
        verse(due, x, 20, 8);
        Due.lapse(x, 8);
        verse(due, x, 12, 6);
        Due.lapse(x, 2);
        verse(due, x, 10, 5);
        Due.lapse(x, 5);
        verse(due, x, 0, 0);
        UnsaidWords y = new UnsaidWords();
        for (int w = 0; w < 14; w++) {
            y.word(20);
        }
        verse(due, y, 280, 16383);
        Due.lapse(y, 64);
        verse(due, y, 260, 16319);
        verse(due, Due.made(new int[] {1}), 1, 1);
        verse(due, Due.made(new int[] {1, 1}), 2, 3);
    }

    private static void verseOfSeveral(Due due) {
        UnsaidWords x = Due.made(new int[] {5, 5, 5, 10});
        x.kin(0, 1, true);
        x.kin(1, 2, true);
        x.kin(0, 2, true);
        verse(due, x, 15, 9);
        x.kin(0, 3, true);
        verse(due, x, 15, 10);
        x.kin(1, 3, true);
        x.kin(2, 3, true);
        verse(due, x, 10, 8);
        x.kin(0, 1, false);
        verse(due, x, 10, 3);
    }

    private static void boast(Due due, UnsaidWords x, int person, int lasting, int meaning) {
        due.is("boast(" + person + ", 0)", x.boast(person, 0), lasting);
        due.is("boast(" + person + ", 1)", x.boast(person, 1), meaning);
    }

    private static void boast(Due due) {
        UnsaidWords x = Due.made(new int[] {20, 2, 3}, 0, 0, 0);
        boast(due, x, 0, -1, -1);
        Due.teach(x, 7, 6, 0);
        boast(due, x, 0, -1, -1);
        Due.tell(x, 0, "means 1 or 1 2 2;means 0 0 0 0 0 0;means 1 2 or 0;");
        boast(due, x, 0, 120, 1);
        boast(due, x, 1, 8, 0);
        boast(due, x, 2, -1, -1);
        x.teach(2, 0);
        boast(due, x, 2, 120, 1);
        Due.lapse(x, 1);
        boast(due, x, 0, 8, 0);
        boast(due, x, 2, -1, -1);
    }

    private static void boastOfSeveral(Due due) {
        UnsaidWords x = Due.made(new int[] {6, 3, 2}, 0);
        Due.teach(x, 7);
        Due.tell(x, 0, "means 1;means 0;means 1 1;means 2 2 2;");
        boast(due, x, 0, 6, 1);
        Due.tell(x, 0, "means 2 2 2 or 0;means 0;");
        boast(due, x, 0, 6, 0);
    }

    private static void crowd(Due due, UnsaidWords x, int place, int many, int words) {
        due.is("crowd(0)", x.crowd(0), place);
        due.is("crowd(1)", x.crowd(1), many);
        due.is("crowd(2)", x.crowd(2), words);
    }

    private static void crowd(Due due) {
        UnsaidWords x = new UnsaidWords();
        crowd(due, x, 0, 0, 0);
        x.person(9);
        crowd(due, x, 9, 1, 0);
        x.person(8);
        crowd(due, x, 8, 1, 0);
        x.person(9);
        crowd(due, x, 9, 2, 0);
        x.person(8);
        crowd(due, x, 8, 2, 0);
        x.person(0);
        x.person(0);
        crowd(due, x, 0, 2, 0);
        for (int i = 0; i < 4; i++) {
            x.person(9);
        }
        crowd(due, x, 9, 6, 0);
    }

    private static void crowdWords(Due due) {
        UnsaidWords x = Due.made(new int[] {1, 1, 1, 1}, 3, 3, 3, 4);
        Due.teach(x, 15, 7, 11, 0);
        crowd(due, x, 3, 3, 2);
        x.teach(1, 3);
        crowd(due, x, 3, 3, 3);
        x.move(2, 4);
        crowd(due, x, 3, 2, 4);
        Due.lapse(x, 1);
        crowd(due, x, 3, 2, 3);
        UnsaidWords y = Due.made(new int[] {1, 1, 1, 1}, 3, 3, 3);
        Due.teach(y, 9, 15, 11);
        crowd(due, y, 3, 3, 2);
        y.move(0, 4);
        crowd(due, y, 3, 2, 3);
    }

    private static void silence(Due due, UnsaidWords x, int word, int left) {
        due.is("silence(0)", x.silence(0), word);
        due.is("silence(1)", x.silence(1), left);
    }

    private static UnsaidWords heaps(int... unsaid) {
        UnsaidWords x = new UnsaidWords();
        for (int w = 0; w < unsaid.length; w++) {
            x.word(1);
            x.set(2, w, unsaid[w]);
        }
        return x;
    }

    private static void silence(Due due) {
        silence(due, heaps(), -1, -1);
        silence(due, heaps(0, 0), -1, -1);
        silence(due, heaps(1), 0, 0);
        silence(due, heaps(7), 0, 0);
        silence(due, heaps(8), -1, -1);
        silence(due, heaps(0, 9), 1, 0);
        silence(due, heaps(9999), 0, 0);
        silence(due, heaps(16, 9992), -1, -1);
        silence(due, heaps(5, 5), -1, -1);
        silence(due, heaps(5, 13), -1, -1);
        silence(due, heaps(2, 5), 1, 2);
        silence(due, heaps(1, 2, 3), -1, -1);
        silence(due, heaps(1, 2, 4), 2, 3);
        silence(due, heaps(7, 1, 2), 0, 3);
        UnsaidWords x = heaps(3, 5);
        due.is("both", x.silence(0), 1);
        Due.lapse(x, 2);
        silence(due, x, 0, 0);
        Due.lapse(x, 1);
        silence(due, x, -1, -1);
    }

    private static void silenceOfSeveral(Due due) {
        silence(due, heaps(1, 1, 1), 0, 0);
        silence(due, heaps(0, 3, 3, 3), 1, 0);
        silence(due, heaps(2, 3, 3), 0, 0);
        silence(due, heaps(6, 7, 7), 0, 0);
        silence(due, heaps(4, 6, 7), 0, 1);
        silence(due, heaps(1, 6, 6, 7, 7), 0, 0);
        silence(due, heaps(2, 7, 3, 3), 1, 2);
        silence(due, heaps(1, 2, 7, 7, 2), 0, 0);
    }

    private static void undo(Due due) {
        undoSayings(due);
        undoDays(due);
        UnsaidWords x = Due.made(new int[] {1}, 0, 0);
        x.teach(0, 0);
        x.set(0, 0, 1000);
        x.state(99);
        String was = Due.all(x);
        x.days(2);
        due.is("it drew", x.look(6) != 99, true);
        due.is("two DAYS", x.look(12), 2);
        x.undo();
        due.is("the latest DAY", x.look(2), 1);
        x.undo();
        due.is("STATE and THE BOOK go back", Due.all(x).equals(was), true);
        due.is("a refused one is none", x.say(0, 5), -1);
        due.is("undo", x.undo(), false);
    }

    /** Two WORDS that are KIN, in the TONGUES of three PEOPLE at one PLACE. */
    private static UnsaidWords three() {
        UnsaidWords x = Due.made(new int[] {1, 1}, 0, 0, 0);
        Due.teach(x, 3, 3, 3);
        x.kin(0, 1, true);
        x.set(2, 0, 8);
        x.set(2, 1, 9);
        return x;
    }

    private static void undoSayings(Due due) {
        UnsaidWords x = three();
        String first = Due.all(x);
        due.is("a SAYING, HEARD", x.say(0, 0), 1);
        String second = Due.all(x);
        due.is("a MOVE", x.move(2, 5), true);
        String third = Due.all(x);
        due.is("a SAYING, not HEARD", x.say(2, 1), 0);
        due.is("undo", x.undo(), true);
        due.is("the SAYING goes back", Due.all(x).equals(third), true);
        due.is("undo", x.undo(), true);
        due.is("the MOVE goes back", Due.all(x).equals(second), true);
        due.is("undo", x.undo(), true);
        due.is("the SAYING, HEARD, goes back", Due.all(x).equals(first), true);
        due.is("nothing more", x.undo(), false);
    }

    private static void undoDays(Due due) {
        UnsaidWords x = three();
        Due.tell(x, 1, "keep 9 when word=1;keep 99;");
        String first = Due.all(x);
        due.is("a DAY", x.days(1), 1);
        String second = Due.all(x);
        due.is("a CARVING", x.carve(1), true);
        String third = Due.all(x);
        due.is("a TEACHING", x.teach(0, 1), true);
        due.is("undo", x.undo(), true);
        due.is("the TEACHING goes back", Due.all(x).equals(third), true);
        due.is("undo", x.undo(), true);
        due.is("the CARVING goes back", Due.all(x).equals(second), true);
        due.is("undo", x.undo(), true);
        due.is("the DAY goes back", Due.all(x).equals(first), true);
        due.is("nothing more", x.undo(), false);
    }

    private static void undoMost(Due due) {
        UnsaidWords x = Due.made(new int[] {}, 0);
        for (int i = 1; i <= 6; i++) {
            x.move(0, i);
            due.is("look(12)", x.look(12), i);
        }
        x.move(0, 7);
        due.is("the seventh: look(12)", x.look(12), 6);
        for (int i = 6; i >= 1; i--) {
            due.is("undo", x.undo(), true);
            due.is("AT", x.who(0, 0), i);
            due.is("look(12)", x.look(12), i - 1);
        }
        due.is("the first is not kept", x.undo(), false);
        due.is("AT", x.who(0, 0), 1);
        due.is("THE BOOK", x.look(5), 1);
        x.days(7);
        due.is("look(12)", x.look(12), 6);
        for (int i = 0; i < 6; i++) {
            due.is("undo", x.undo(), true);
        }
        due.is("undo", x.undo(), false);
        due.is("DAY", x.look(2), 1);
    }

    private static void undoForgets(Due due) {
        String[] names = {"THE LAW", "MEANINGS", "NEEDS", "TALK", "TALK, none", "THE IMAGE taken", "feed", "end", "text(9)",
            "STATE", "WORD", "PERSON", "CHAT", "BREATH", "UNSAID", "KIN", "KIN, not", "MILES", "WALKS", "THE IMAGE gone back to"};
        for (int i = 0; i < names.length; i++) {
            UnsaidWords x = Due.made(new int[] {1, 1}, 0);
            Due.tell(x, 0, "means 0;");
            x.image(true);
            x.move(0, 1);
            x.move(0, 2);
            toldAnew(x, i);
            due.is(names[i] + ": what can be undone", x.look(12), i < 9 ? 2 : 0);
            due.is(names[i] + ": undo", x.undo(), i < 9);
        }
    }

    /** The i-th of what may be told. */
    private static void toldAnew(UnsaidWords x, int i) {
        switch (i) {
            case 0: Due.tell(x, 1, "keep 5;"); break;
            case 1: Due.tell(x, 0, "means 1;"); break;
            case 2: Due.tell(x, 3, "need 0 by 5 worth 5;"); break;
            case 3: x.talk(0, 0); break;
            case 4: x.talk(-1, 0); break;
            case 5: x.image(true); break;
            case 6: x.feed(1, 2, 3, 4, 5); break;
            case 7: x.end(0); break;
            case 8: x.text(9); break;
            case 9: x.state(0); break;
            case 10: x.word(5); break;
            case 11: x.person(5); break;
            case 12: x.set(0, 0, 0); break;
            case 13: x.set(1, 0, 50); break;
            case 14: x.set(2, 0, 0); break;
            case 15: x.kin(0, 1, true); break;
            case 16: x.kin(0, 1, false); break;
            case 17: x.miles(0, 1, 10); break;
            case 18: Due.tell(x, 2, ""); break;
            default: x.image(false);
        }
    }

    /** With all that can be told told. */
    private static UnsaidWords full() {
        UnsaidWords x = Due.made(new int[] {3, 4, 5}, 0, 0, 1);
        Due.teach(x, 7, 3, 1);
        x.kin(0, 1, true);
        x.miles(0, 1, 77);
        x.miles(9, 8, 66);
        x.set(0, 0, 400);
        x.set(1, 1, 33);
        x.set(2, 2, 44);
        x.state(99);
        Due.tell(x, 0, "means 0 2 or 1;means 2;");
        Due.tell(x, 1, "keep 46;hear 1;");
        Due.tell(x, 2, "on 3 0 rests;");
        Due.tell(x, 3, "need 1 by 9 worth 8;");
        x.talk(1, 0);
        x.say(0, 0);
        return x;
    }

    /** All is told otherwise, and days go by. */
    private static void otherwise(UnsaidWords x) {
        x.undo();
        x.word(9);
        x.person(9);
        x.teach(2, 2);
        x.kin(0, 1, false);
        x.miles(0, 1, 1);
        x.miles(8, 9, 1);
        x.set(0, 0, 900);
        x.set(1, 1, 1);
        x.set(2, 0, 1);
        x.state(5);
        Due.tell(x, 0, "means 0;");
        Due.tell(x, 2, "on 0 0 rests;on 0 0 goes 8;");
        Due.tell(x, 3, "need 0 by 0 worth 1;need 0 by 0 worth 1;");
        Due.tell(x, 1, "keep 2;");
        x.talk(0, 3);
        x.days(3);
        x.carve(0);
    }

    /** What is told of the image's world but look(12). */
    private static String told(UnsaidWords x) {
        StringBuilder told = new StringBuilder(Due.all(x).replaceFirst("^((\\S+ ){12})\\S+ ", "$1"));
        int[] more = {x.round(0, 2, 0), x.round(0, 768, 0), x.spoke(true), x.wording(0, 1), x.goes(2, 2), x.misses(0), x.misses(1), x.asks(0, 0, false)};
        for (int one : more) {
            told.append(one).append(' ');
        }
        return told.toString();
    }

    private static void image(Due due) {
        UnsaidWords x = full();
        due.is("taken", x.image(true), true);
        String was = told(x);
        otherwise(x);
        due.is("it is otherwise", told(x).equals(was), false);
        due.is("gone back", x.image(false), true);
        due.is("all is as it was", told(x).equals(was), true);
        due.is("no WORD more", x.of(3, 0), -1);
        due.is("no PERSON more", x.who(3, 0), -1);
        for (int i = 0; i < 4; i++) {
            due.is("THE BOOK", x.book(i, 3), new int[] {0, 1, 2, 0}[i]);
        }
        UnsaidWords y = new UnsaidWords();
        y.image(true);
        otherwise(y);
        y.image(false);
        due.is("of nothing", told(y).equals(told(new UnsaidWords())), true);
    }

    private static void imageWithout(Due due) {
        UnsaidWords x = full();
        due.is("one thing can be undone", x.look(12), 1);
        Due.tape(x, "means 0;");
        x.image(true);
        due.is("taken: what can be undone stays", x.look(12), 1);
        due.is("a FAULT", x.text(1), -1);
        Due.tape(x, "means 0;means 1;");
        x.move(0, 9);
        due.is("gone back", x.image(false), true);
        due.is("nothing can be undone", x.look(12), 0);
        due.is("undo", x.undo(), false);
        due.is("fault(0) stays", x.fault(0), 1);
        due.is("fault(1) stays", x.fault(1), 0);
        due.is("the TAPE has no more", x.end(17), false);
        due.is("the TAPE stays", x.end(16), true);
        due.is("it is read", x.text(0), 2);
        due.is("gone back", x.image(false), true);
        due.is("fault(0) stays", x.fault(0), 0);
        due.is("the TAPE stays empty", x.end(1), false);
    }

    private static void imageAsTaken(Due due) {
        UnsaidWords x = full();
        x.image(true);
        x.move(0, 9);
        x.image(true);
        x.move(0, 8);
        x.image(false);
        due.is("the latest one", x.who(0, 0), 9);
        x.move(0, 7);
        x.undo();
        x.undo();
        x.image(false);
        due.is("not what was undone", x.who(0, 0), 9);
        UnsaidWords y = full();
        y.image(true);
        String was = told(y);
        y.undo();
        due.is("undone then", told(y).equals(was), false);
        y.image(false);
        due.is("as it was when it was taken", told(y).equals(was), true);
    }

    private static void imageMoreThanOnce(Due due) {
        UnsaidWords x = full();
        x.image(true);
        String was = told(x);
        for (int i = 0; i < 3; i++) {
            x.move(0, 4 + i);
            x.days(2);
            due.is("gone back", x.image(false), true);
            due.is("as it was", told(x).equals(was), true);
        }
        due.is("at once again", x.image(false), true);
        due.is("as it was", told(x).equals(was), true);
    }
}
