/** Counts the answers of one test that are not as due, and feeds texts. */
final class Due {
    private static final int WRONG_SHOWN = 40;

    private final String test;
    private String part = "";
    private int wrong = 0;
    private int asked = 0;

    Due(String test) {
        this.test = test;
    }

    /** Names what the next answers are about. */
    void part(String name) {
        part = name;
    }

    void is(String call, long got, long want) {
        asked++;
        if (got != want) {
            wrong++;
            if (wrong <= WRONG_SHOWN) {
                System.out.println(test + (part.isEmpty() ? "" : ", " + part) + ": " + call + " answered " + got + ", due is " + want);
            }
        }
    }

    void is(String call, boolean got, boolean want) {
        is(call, got ? 1 : 0, want ? 1 : 0);
    }

    boolean isWrong() {
        return wrong > 0;
    }

    int asked() {
        return asked;
    }

    /** Ends the test: with exit code 1 if an answer was wrong, or none was asked for. */
    void close() {
        System.out.println(test + ": " + asked + " answers, " + wrong + " wrong");
        if (wrong > 0 || asked == 0) {
            System.exit(1);
        }
    }

    /** Puts the bytes of a text behind the TAPE and cuts it to them. */
    static void tape(UnsaidWords x, String text) {
        int had = 0;
        for (int i = 0; i < text.length(); i += 20) {
            int[] four = new int[5];
            for (int j = 0; j < 20; j++) {
                int sign = i + j < text.length() ? text.charAt(i + j) : ' ';
                four[j / 4] = four[j / 4] << 8 | sign & 255;
            }
            had = x.feed(four[0], four[1], four[2], four[3], four[4]);
        }
        if (had != UnsaidWords.NONE) {
            x.end(had - (20 - text.length() % 20) % 20);
        }
    }

    static int tell(UnsaidWords x, int k, String text) {
        tape(x, text);
        return x.text(k);
    }

    /** A new object with WORDS of these LONGS, and at each of these PLACES a PERSON. */
    static UnsaidWords made(int[] longs, int... places) {
        UnsaidWords x = new UnsaidWords();
        for (int lasting : longs) {
            x.word(lasting);
        }
        for (int place : places) {
            x.person(place);
        }
        return x;
    }

    /** Each PERSON is taught a set of WORDS. */
    static void teach(UnsaidWords x, int... tongues) {
        for (int p = 0; p < tongues.length; p++) {
            for (int w = 0; w < 14; w++) {
                if ((tongues[p] >> w & 1) == 1) {
                    x.teach(p, w);
                }
            }
        }
    }

    /** WORDS of a set are made to LAPSE by a day, the others not; THE LAW is empty then. */
    static void lapse(UnsaidWords x, int set) {
        StringBuilder law = new StringBuilder();
        for (int w = 0; w < 14; w++) {
            if ((set >> w & 1) == 1) {
                law.append("keep 1 when word=").append(w).append(";");
            }
        }
        tell(x, 1, law + "keep 9999;");
        x.days(1);
        tell(x, 1, "");
    }

    /**
     * All that can be looked at of what is, but THE BOOK's lines ahead of its last: held against
     * itself behind a call that is refused. Small objects alone, for each look is a call.
     */
    static String all(UnsaidWords x) {
        StringBuilder all = new StringBuilder();
        for (int what = 0; what < 14; what++) {
            all.append(x.look(what)).append(' ');
        }
        int words = x.look(0);
        for (int w = 0; w < words; w++) {
            for (int what = 1; what < 7; what++) {
                all.append(x.of(w, what)).append(' ');
            }
        }
        int people = x.look(1);
        for (int p = 0; p < people; p++) {
            for (int what = 0; what < 3; what++) {
                all.append(x.who(p, what)).append(' ');
            }
        }
        int last = x.look(5) - 1;
        for (int what = 0; what < 4; what++) {
            all.append(x.book(last, what)).append(' ');
        }
        return all.toString();
    }
}
