/** Terms 3: to SAY, a DAY, MOVE, TEACH, CARVE, THE BOOK. */
final class EdgesOfDeeds {
    static void tell(Edges edges) {
        edges.in("Terms 3");
        edges.of("To SAY a WORD: a PERSON in whose TONGUE it is", EdgesOfDeeds::inTongue);
        edges.of("it not being LAPSED", EdgesOfDeeds::notLapsed);
        edges.of("BREATH being tire at least: BREATH is tire less", EdgesOfDeeds::breathIsTire);
        edges.of("it is HEARD, if at the PLACE there are hear others at least in whose TONGUE it is", EdgesOfDeeds::heard);
        edges.of("(all asked ahead)", EdgesOfDeeds::askedAhead);
        edges.of("HEARD: UNSAID is 0, SAID is one more", EdgesOfDeeds::unsaidAndSaid);
        edges.of("of each WORD KIN to it that is not LAPSED UNSAID is half of it", EdgesOfDeeds::kinHalf);
        edges.of("each other one at the PLACE whose TONGUE has it not has it then", EdgesOfDeeds::othersHaveIt);
        tellDays(edges);
        edges.of("To MOVE a PERSON", EdgesOfDeeds::move);
        edges.of("to TEACH one a WORD that is not LAPSED", EdgesOfDeeds::teach);
        edges.of("to CARVE: a WORD that is LAPSED is not any more (UNSAID 0, in no TONGUE)", EdgesOfDeeds::carve);
        edges.of("THE BOOK (150 lines; no more then)", EdgesOfDeeds::bookMost);
        edges.of("DAY, what (0 HEARD, 1 said, not HEARD, 2 LAPSED, 3 moved, 4 taught, 5 carved), who (2, 5: NONE), which (the WORD; 3: the PLACE)", EdgesOfDeeds::bookLines);
    }

    private static void tellDays(Edges edges) {
        edges.of("A DAY. (a) Line by line of WALKS for this DAY", EdgesOfDeeds::lineByLine);
        edges.of("goes (if he is not there)", EdgesOfDeeds::goes);
        edges.of("says, if he can", EdgesOfDeeds::says);
        edges.of("rests: BREATH 20 more (99 at most)", EdgesOfDeeds::rests);
        edges.of("(b) If CHAT is above 0: PERSON by PERSON a DRAW of 1000", EdgesOfDeeds::chatAboveZero);
        edges.of("below CHAT he says the WORD of his TONGUE that is not LAPSED and has been UNSAID longest", EdgesOfDeeds::saysLongest);
        edges.of("(of several the least), if he can", EdgesOfDeeds::ofSeveralTheLeast);
        edges.of("(c) WORD by WORD that is not LAPSED: UNSAID is one more", EdgesOfDeeds::oneMore);
        edges.of("is it keep at least then, it LAPSES", EdgesOfDeeds::keepAtLeast);
        edges.of("(no TONGUE has it any more)", EdgesOfDeeds::noTongue);
        edges.of("(d) BREATH of each 5 more (99 at most)", EdgesOfDeeds::fiveMore);
        edges.of("(e) DAY is one more", EdgesOfDeeds::dayIsOneMore);
    }

    private static void line(Due due, UnsaidWords x, int i, int day, int what, int who, int which) {
        int[] want = {day, what, who, which};
        for (int c = 0; c < 4; c++) {
            due.is("book(" + i + ", " + c + ")", x.book(i, c), want[c]);
        }
    }

    private static void inTongue(Due due) {
        UnsaidWords x = Due.made(new int[] {1, 1}, 0, 0, 0);
        Due.teach(x, 1, 3, 3);
        String was = Due.all(x);
        due.is("another's", x.say(0, 1), -1);
        due.is("nothing is done", Due.all(x).equals(was), true);
        due.is("his", x.say(0, 0), 1);
        due.is("his", x.say(1, 1), 0);
    }

    private static void notLapsed(Due due) {
        UnsaidWords x = Due.made(new int[] {1, 1}, 0, 0, 0);
        Due.teach(x, 3, 3, 3);
        Due.lapse(x, 2);
        String was = Due.all(x);
        due.is("LAPSED", x.say(0, 1), -1);
        due.is("nothing is done", Due.all(x).equals(was), true);
        due.is("not LAPSED", x.say(0, 0), 1);
        x.carve(1);
        due.is("carved, in no TONGUE", x.say(0, 1), -1);
        x.teach(0, 1);
        due.is("taught", x.say(0, 1), 0);
    }

    private static void breathIsTire(Due due) {
        UnsaidWords x = Due.made(new int[] {20, 1}, 0, 0, 0);
        Due.teach(x, 3, 3, 3);
        int[][] cases = {{99, 79}, {50, 30}, {21, 1}, {20, 0}, {19, -1}, {1, -1}, {0, -1}};
        for (int[] c : cases) {
            x.set(1, 0, c[0]);
            due.is("say with BREATH " + c[0], x.say(0, 0), c[1] < 0 ? -1 : 1);
            due.is("BREATH then", x.who(0, 2), c[1] < 0 ? c[0] : c[1]);
        }
        due.is("BREATH of another", x.who(1, 2), 50);
        x.set(1, 0, 5);
        due.is("not HEARD, but said", Due.tell(x, 1, "hear 3;tire 5;"), 2);
        due.is("say", x.say(0, 1), 0);
        due.is("BREATH then", x.who(0, 2), 0);
        Due.tell(x, 1, "tire 0;");
        due.is("tire 0", x.say(0, 1), 1);
        due.is("BREATH then", x.who(0, 2), 0);
    }

    private static void heard(Due due) {
        for (int hear = 0; hear <= 9; hear++) {
            UnsaidWords x = Due.made(new int[] {1}, 3, 3, 3, 3, 3, 3, 3, 3, 3, 3);
            Due.teach(x, 1, 1, 1, 1, 1, 1, 1, 1, 1, 1);
            Due.tell(x, 1, "hear " + hear + ";tire 0;");
            due.is("nine others, hear " + hear, x.say(4, 0), 1);
            for (int p = 9; p > hear; p--) {
                x.move(p, 4);
            }
            due.is("just as many, hear " + hear, x.say(0, 0), 1);
            x.move(hear, 5);
            due.is("one fewer, hear " + hear, x.say(0, 0), hear > 0 ? 0 : 1);
        }
        UnsaidWords x = Due.made(new int[] {1, 1}, 3, 3, 3, 4, 4);
        Due.teach(x, 1, 1, 2, 1, 1);
        due.is("one at the PLACE has it not", x.say(0, 0), 0);
        x.teach(2, 0);
        due.is("two have it", x.say(0, 0), 1);
        due.is("one other there", x.say(3, 0), 0);
        x.move(0, 4);
        due.is("two others there", x.say(3, 0), 1);
        due.is("two left there", x.say(1, 0), 0);
    }

    private static void askedAhead(Due due) {
        UnsaidWords x = Due.made(new int[] {1}, 0, 0, 0, 0);
        Due.teach(x, 1, 1);
        Due.tell(x, 1, "hear knows-1;tire unsaid+said*20+knows;");
        x.set(2, 0, 9);
        due.is("hear by those who have it ahead", x.say(0, 0), 1);
        due.is("tire by UNSAID, SAID and those ahead: 9 + 0 + 2", x.who(0, 2), 39);
        due.is("all have it then", x.of(0, 6), 15);
        due.is("again", x.say(0, 0), 1);
        due.is("tire: 0 + 20 + 4", x.who(0, 2), 15);
        UnsaidWords y = Due.made(new int[] {1}, 0, 0, 0);
        Due.teach(y, 1, 1);
        due.is("who has it only then is not asked", y.say(0, 0), 0);
        due.is("not HEARD", y.of(0, 6), 3);
        Due.tell(y, 1, "hear 1+said;tire 1;");
        due.is("hear ahead of SAID one more", y.say(0, 0), 1);
        due.is("two others then, hear 2", y.say(0, 0), 1);
        due.is("two others, hear 3", y.say(0, 0), 0);
    }

    private static void unsaidAndSaid(Due due) {
        UnsaidWords x = Due.made(new int[] {1, 1}, 0, 0, 0);
        Due.teach(x, 3, 3, 1);
        x.set(2, 0, 9999);
        x.set(2, 1, 9999);
        due.is("HEARD", x.say(0, 0), 1);
        due.is("UNSAID", x.of(0, 1), 0);
        due.is("SAID", x.of(0, 3), 1);
        due.is("UNSAID of another", x.of(1, 1), 9999);
        due.is("SAID of another", x.of(1, 3), 0);
        due.is("not HEARD", x.say(0, 1), 0);
        due.is("UNSAID", x.of(1, 1), 9999);
        due.is("SAID", x.of(1, 3), 0);
        due.is("HEARD at UNSAID 0", x.say(1, 0), 1);
        due.is("UNSAID", x.of(0, 1), 0);
        due.is("SAID", x.of(0, 3), 2);
    }

    private static void kinHalf(Due due) {
        UnsaidWords x = Due.made(new int[] {1, 1, 1, 1, 1}, 0, 0, 0);
        Due.teach(x, 31, 31, 31);
        x.kin(2, 0, true);
        x.kin(2, 1, true);
        x.kin(2, 4, true);
        x.kin(1, 3, true);
        Due.lapse(x, 16);
        int[][] unsaid = {{9, 4}, {9999, 4999}, {77, 0}, {8, 8}, {5, 5}};
        for (int w = 0; w < 5; w++) {
            x.set(2, w, unsaid[w][0]);
        }
        due.is("HEARD", x.say(0, 2), 1);
        for (int w = 0; w < 5; w++) {
            due.is("UNSAID of WORD " + w, x.of(w, 1), unsaid[w][1]);
        }
        due.is("SAID of a KIN one", x.of(0, 3), 0);
        x.move(1, 5);
        due.is("not HEARD", x.say(0, 2), 0);
        due.is("UNSAID of a KIN one", x.of(0, 1), 4);
        x.set(2, 0, 1);
        x.set(2, 1, 0);
        x.move(1, 0);
        due.is("HEARD", x.say(0, 2), 1);
        due.is("half of 1", x.of(0, 1), 0);
        due.is("half of 0", x.of(1, 1), 0);
    }

    private static void othersHaveIt(Due due) {
        UnsaidWords x = Due.made(new int[] {1, 1}, 0, 0, 0, 0, 1, 9);
        Due.teach(x, 1, 1, 1, 2, 0, 0);
        x.kin(0, 1, true);
        due.is("HEARD", x.say(1, 0), 1);
        int[] tongues = {1, 1, 1, 3, 0, 0};
        for (int p = 0; p < 6; p++) {
            due.is("TONGUE of PERSON " + p, x.who(p, 1), tongues[p]);
        }
        UnsaidWords y = Due.made(new int[] {1}, 0, 0, 0);
        Due.teach(y, 1, 1, 0);
        due.is("not HEARD", y.say(0, 0), 0);
        due.is("has it not", y.who(2, 1), 0);
        UnsaidWords z = Due.made(new int[] {1, 1, 1, 1}, 9, 9, 9, 9, 9);
        Due.teach(z, 1, 2, 0, 12, 8);
        Due.tell(z, 1, "hear 1;");
        due.is("HEARD", z.say(4, 3), 1);
        int[] want = {9, 10, 8, 12, 8};
        for (int p = 0; p < 5; p++) {
            due.is("TONGUE of PERSON " + p, z.who(p, 1), want[p]);
        }
    }

    private static void lineByLine(Due due) {
        UnsaidWords x = Due.made(new int[] {1}, 0, 5, 5);
        Due.teach(x, 1, 1, 1);
        int lines = x.look(5);
        Due.tell(x, 2, "on 1 0 goes 8;on 0 0 says 0;on 0 0 goes 5;on 0 0 says 0;on 2 0 goes 7;on 0 1 goes 6;on 0 0 says 0;");
        due.is("days(1)", x.days(1), 0);
        line(due, x, lines, 0, 1, 0, 0);
        line(due, x, lines + 1, 0, 3, 0, 5);
        line(due, x, lines + 2, 0, 0, 0, 0);
        line(due, x, lines + 3, 0, 3, 1, 6);
        line(due, x, lines + 4, 0, 1, 0, 0);
        due.is("for this DAY alone", x.look(5), lines + 5);
        x.days(1);
        due.is("DAY 1", x.who(0, 0), 8);
        x.days(1);
        due.is("DAY 2", x.who(0, 0), 7);
        x.days(1);
        due.is("no line for DAY 3", x.look(5), lines + 7);
    }

    private static void goes(Due due) {
        UnsaidWords x = Due.made(new int[] {}, 4, 0);
        Due.tell(x, 2, "on 0 0 goes 4;on 1 0 goes 9;on 1 0 goes 9;on 1 0 goes 0;on 2 1 goes 0;");
        x.days(1);
        due.is("he is there", x.look(5), 0);
        x.days(1);
        due.is("AT", x.who(0, 0), 0);
        due.is("look(5)", x.look(5), 2);
        line(due, x, 0, 1, 3, 0, 9);
        line(due, x, 1, 1, 3, 0, 0);
        x.days(1);
        due.is("he is there", x.look(5), 2);
    }

    private static void says(Due due) {
        UnsaidWords x = Due.made(new int[] {20, 1, 1}, 0);
        Due.teach(x, 5);
        Due.tell(x, 2, "on 0 0 says 0;on 0 0 says 0;on 0 0 says 0;on 0 0 says 1;on 0 0 says 2;");
        int lines = x.look(5);
        x.set(1, 0, 41);
        x.days(1);
        line(due, x, lines, 0, 1, 0, 0);
        line(due, x, lines + 1, 0, 1, 0, 0);
        line(due, x, lines + 2, 0, 1, 0, 2);
        due.is("not without BREATH or the WORD", x.look(5), lines + 3);
        due.is("BREATH 41 - 20 - 20 - 1 + 5", x.who(0, 2), 5);
        UnsaidWords y = Due.made(new int[] {1}, 0);
        y.teach(0, 0);
        Due.tell(y, 2, "on 1 0 says 0;");
        Due.lapse(y, 1);
        int before = y.look(5);
        y.days(1);
        due.is("not LAPSED", y.look(5), before);
    }

    private static void rests(Due due) {
        int[][] cases = {{0, 25}, {74, 99}, {73, 98}, {75, 99}, {79, 99}, {80, 99}, {99, 99}};
        for (int[] c : cases) {
            UnsaidWords x = Due.made(new int[] {}, 0, 0);
            Due.tell(x, 2, "on 0 0 rests;");
            x.set(1, 0, c[0]);
            x.days(1);
            due.is("BREATH " + c[0] + " rested, and the night", x.who(0, 2), c[1]);
            due.is("another does not rest", x.who(1, 2), 55);
            due.is("no line of THE BOOK", x.look(5), 0);
        }
        UnsaidWords x = Due.made(new int[] {20}, 0);
        x.teach(0, 0);
        Due.tell(x, 2, "on 0 0 rests;on 0 0 says 0;");
        x.set(1, 0, 85);
        x.days(1);
        due.is("99 at most when he says it: 99 - 20 + 5", x.who(0, 2), 84);
    }

    private static void chatAboveZero(Due due) {
        UnsaidWords x = Due.made(new int[] {1}, 0, 0, 0);
        x.state(5);
        x.days(3);
        due.is("CHAT 0: no DRAWS", x.look(6), 5);
        x.set(0, 0, 1);
        x.days(1);
        int state = 5;
        for (int i = 0; i < 3; i++) {
            state = state * 1664525 + 1013904223;
        }
        due.is("CHAT 1: one of each", x.look(6), state);
        UnsaidWords y = Due.made(new int[] {1}, 0, 0, 0);
        Due.teach(y, 1, 0, 1);
        y.set(0, 0, 1000);
        int lines = y.look(5);
        y.days(1);
        line(due, y, lines, 0, 1, 0, 0);
        line(due, y, lines + 1, 0, 1, 2, 0);
        due.is("all below 1000, one without WORDS", y.look(5), lines + 2);
        UnsaidWords nobody = new UnsaidWords();
        nobody.set(0, 0, 1000);
        nobody.state(9);
        nobody.days(60);
        due.is("nobody: no DRAWS", nobody.look(6), 9);
    }

    private static void saysLongest(Due due) {
        UnsaidWords x = Due.made(new int[] {1, 1, 1, 1}, 0);
        Due.teach(x, 7);
        Due.tell(x, 1, "hear 0 when word=1;");
        int lines = x.look(5);
        int[] unsaid = {5, 6, 5, 99};
        for (int w = 0; w < 4; w++) {
            x.set(2, w, unsaid[w]);
        }
        x.set(0, 0, 1000);
        x.days(1);
        line(due, x, lines, 0, 0, 0, 1);
        x.days(1);
        line(due, x, lines + 1, 1, 1, 0, 0);
        Due.lapse(x, 1);
        line(due, x, lines + 2, 2, 1, 0, 0);
        x.days(1);
        due.is("not the LAPSED one", x.book(lines + 4, 3), 2);
        UnsaidWords y = Due.made(new int[] {1}, 0);
        y.set(0, 0, 1000);
        y.days(1);
        due.is("no WORD: nothing", y.look(5), 0);
    }

    private static void ofSeveralTheLeast(Due due) {
        UnsaidWords x = Due.made(new int[] {1, 1, 9, 1}, 0);
        Due.teach(x, 14);
        int lines = x.look(5);
        x.set(2, 0, 7);
        for (int w = 1; w < 4; w++) {
            x.set(2, w, 7);
        }
        x.set(0, 0, 1000);
        x.days(1);
        due.is("of several the least", x.book(lines, 3), 1);
        x.set(2, 1, 0);
        x.set(1, 0, 8);
        x.days(1);
        due.is("he can't: nothing else is said", x.look(5), lines + 1);
        due.is("BREATH", x.who(0, 2), 13);
        x.days(1);
        due.is("he can", x.book(lines + 1, 3), 2);
        due.is("BREATH 13 - 9 + 5", x.who(0, 2), 9);
    }

    private static void oneMore(Due due) {
        UnsaidWords x = Due.made(new int[] {1, 1, 1});
        x.set(2, 1, 40);
        Due.lapse(x, 4);
        int[] want = {1, 41, 1};
        for (int day = 0; day < 3; day++) {
            for (int w = 0; w < 3; w++) {
                due.is("UNSAID of WORD " + w, x.of(w, 1), want[w] + (w < 2 ? day : 0));
            }
            x.days(1);
        }
        UnsaidWords y = Due.made(new int[] {1, 1, 1});
        y.kin(0, 1, true);
        y.kin(1, 2, true);
        Due.tell(y, 1, "keep 1 when word=1;keep 1 when kin=0;");
        due.is("WORD by WORD: 1, then 2, whose KIN it was", y.days(1), 2);
        due.is("look(4)", y.look(4), 6);
        line(due, y, 0, 0, 2, -1, 1);
        line(due, y, 1, 0, 2, -1, 2);
        due.is("0 the next day", y.days(1), 1);
    }

    private static void keepAtLeast(Due due) {
        int[][] cases = {{0, 1, 1}, {0, 2, 0}, {3, 5, 0}, {4, 5, 1}, {5, 5, 1}, {6, 5, 1}, {9997, 9999, 0}, {9998, 9999, 1}, {9999, 9999, 1}, {9999, 1, 1}};
        for (int[] c : cases) {
            UnsaidWords x = Due.made(new int[] {1});
            x.set(2, 0, c[0]);
            Due.tell(x, 1, "keep " + c[1] + ";");
            due.is("UNSAID " + c[0] + ", keep " + c[1], x.days(1), c[2]);
            due.is("LAPSED", x.of(0, 2), c[2]);
        }
        UnsaidWords y = Due.made(new int[] {1});
        Due.tell(y, 1, "keep 9 when unsaid=3;keep 3;");
        due.is("keep is asked then", y.days(3), 0);
        due.is("keep is asked then", y.days(1), 1);
    }

    private static void noTongue(Due due) {
        UnsaidWords x = Due.made(new int[] {1, 1}, 0, 4, 9);
        Due.teach(x, 3, 1, 2);
        Due.lapse(x, 1);
        int[] want = {2, 0, 2};
        for (int p = 0; p < 3; p++) {
            due.is("TONGUE of PERSON " + p, x.who(p, 1), want[p]);
        }
        due.is("of(0, 6)", x.of(0, 6), 0);
        due.is("of(1, 6)", x.of(1, 6), 5);
    }

    private static void fiveMore(Due due) {
        int[][] cases = {{0, 5}, {50, 55}, {93, 98}, {94, 99}, {95, 99}, {98, 99}, {99, 99}};
        for (int[] c : cases) {
            UnsaidWords x = Due.made(new int[] {}, 0, 7);
            x.set(1, 0, c[0]);
            x.days(1);
            due.is("BREATH " + c[0], x.who(0, 2), c[1]);
            due.is("of each", x.who(1, 2), 55);
        }
        UnsaidWords x = Due.made(new int[] {}, 0);
        x.days(60);
        due.is("many nights", x.who(0, 2), 99);
    }

    private static void dayIsOneMore(Due due) {
        UnsaidWords x = Due.made(new int[] {1}, 0);
        x.teach(0, 0);
        Due.tell(x, 1, "keep 2;tire day;");
        Due.tell(x, 2, "on 1 0 says 0;");
        x.days(1);
        due.is("look(2)", x.look(2), 1);
        x.days(1);
        due.is("look(2)", x.look(2), 2);
        line(due, x, 1, 1, 1, 0, 0);
        line(due, x, 2, 1, 2, -1, 0);
        x.days(58);
        due.is("look(2)", x.look(2), 60);
    }

    private static void move(Due due) {
        UnsaidWords x = Due.made(new int[] {1}, 0, 0);
        x.teach(0, 0);
        due.is("move", x.move(0, 9), true);
        due.is("AT", x.who(0, 0), 9);
        due.is("AT of another", x.who(1, 0), 0);
        due.is("TONGUE", x.who(0, 1), 1);
        due.is("BREATH", x.who(0, 2), 50);
        due.is("to where he is", x.move(0, 9), false);
    }

    private static void teach(Due due) {
        UnsaidWords x = Due.made(new int[] {1, 1}, 0, 0);
        x.set(2, 0, 9);
        due.is("teach", x.teach(0, 0), true);
        due.is("TONGUE", x.who(0, 1), 1);
        due.is("TONGUE of another", x.who(1, 1), 0);
        due.is("UNSAID", x.of(0, 1), 9);
        due.is("SAID", x.of(0, 3), 0);
        Due.lapse(x, 2);
        due.is("a LAPSED one", x.teach(0, 1), false);
        due.is("TONGUE", x.who(0, 1), 1);
        x.carve(1);
        due.is("not any more", x.teach(0, 1), true);
    }

    private static void carve(Due due) {
        UnsaidWords x = Due.made(new int[] {1, 1}, 0, 0);
        Due.teach(x, 3, 2);
        Due.lapse(x, 2);
        x.set(2, 1, 77);
        due.is("one that is not LAPSED", x.carve(0), false);
        due.is("carve", x.carve(1), true);
        due.is("LAPSED", x.of(1, 2), 0);
        due.is("UNSAID 0", x.of(1, 1), 0);
        due.is("in no TONGUE", x.of(1, 6), 0);
        due.is("not any more", x.carve(1), false);
        due.is("UNSAID of another", x.of(0, 1), 1);
        x.days(1);
        due.is("UNSAID goes on", x.of(1, 1), 1);
    }

    private static void bookMost(Due due) {
        UnsaidWords x = Due.made(new int[] {1}, 0);
        for (int i = 0; i < 149; i++) {
            x.move(0, 1 + i % 2);
        }
        due.is("149 lines", x.look(5), 149);
        x.move(0, 5);
        due.is("150 lines", x.look(5), 150);
        line(due, x, 149, 0, 3, 0, 5);
        due.is("what comes then is done", x.move(0, 6), true);
        due.is("AT", x.who(0, 0), 6);
        due.is("no more", x.look(5), 150);
        due.is("no line 150", x.book(150, 0), -2);
        line(due, x, 149, 0, 3, 0, 5);
        due.is("teach", x.teach(0, 0), true);
        due.is("say", x.say(0, 0), 0);
        Due.lapse(x, 1);
        due.is("carve", x.carve(0), true);
        due.is("no more", x.look(5), 150);
        line(due, x, 0, 0, 3, 0, 1);
    }

    private static void bookLines(Due due) {
        UnsaidWords x = Due.made(new int[] {1, 1, 1}, 0, 0, 0);
        x.days(2);
        Due.teach(x, 4, 4, 4);
        x.move(2, 7);
        due.is("say", x.say(1, 2), 0);
        x.move(2, 0);
        due.is("say", x.say(1, 2), 1);
        Due.lapse(x, 4);
        x.carve(2);
        int[][] want = {{2, 4, 0, 2}, {2, 4, 1, 2}, {2, 4, 2, 2}, {2, 3, 2, 7}, {2, 1, 1, 2}, {2, 3, 2, 0}, {2, 0, 1, 2}, {2, 2, -1, 2}, {3, 5, -1, 2}};
        for (int i = 0; i < want.length; i++) {
            line(due, x, i, want[i][0], want[i][1], want[i][2], want[i][3]);
        }
        due.is("look(5)", x.look(5), want.length);
    }
}
