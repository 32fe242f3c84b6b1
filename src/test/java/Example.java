/** How the class is used. README.md shows this file and what it prints. */
public final class Example {
    private static final int MEANINGS = 0;
    private static final int LAW = 1;
    private static final int WALKS = 2;
    private static final int NEEDS = 3;

    public static void main(String[] args) {
        UnsaidWords x = new UnsaidWords();
        int bread = x.word(5);
        int salt = x.word(3);
        int anna = x.person(0);
        int ben = x.person(0);
        int carl = x.person(4);
        x.teach(anna, bread);
        x.teach(anna, salt);
        x.teach(ben, bread);
        show("Anna says bread: two others must know it, Ben alone is there", x.say(anna, bread));

        show("meanings, lines", tell(x, MEANINGS, "means 0 or 1; means 1 0 1;"));
        show("the law, lines", tell(x, LAW, "keep 30 when long > 4; keep 9; hear 1;"));
        show("walks, lines", tell(x, WALKS, "on 5 0 says 0; on 6 2 goes 0;"));
        show("needs, lines", tell(x, NEEDS, "need 0 by 12 worth 3; need 1 by 12 worth 8;"));
        show("a text with a fault", tell(x, WALKS, "on 5 0 says 7;"));
        show("the fault: there is no word 7", x.fault(0));
        show("its place", x.fault(1));

        show("in thought: words lapsed in 20 days", x.goes(20, 0));
        show("the first of them", x.goes(20, 1));
        show("its day", x.goes(20, 2));
        show("the first need that can't be said", x.misses(0));
        show("who keep all words, as a set: Anna", x.keepers(1));

        show("10 days go by, words lapsed", x.days(10));
        show("the day", x.look(2));
        show("who know bread, as a set: Anna, Ben", x.of(bread, 6));
        show("Carl came to Anna and Ben", x.who(carl, 0));
        show("what stands in the book's last line: 2, lapsed", x.book(x.look(5) - 1, 1));
        show("can Anna say salt", x.say(anna, salt));
        show("Ben says bread to Anna and Carl", x.say(ben, bread));
        show("Carl knows bread now, as a set", x.who(carl, 1));

        show("undone: what Ben said", x.undo() ? 1 : 0);
        show("undone: the last day", x.undo() ? 1 : 0);
        show("the day", x.look(2));
        x.image(true);
        x.days(60);
        show("all words lapsed, as a set", x.look(4));
        x.image(false);
        show("back in the image", x.look(4));
    }

    /** A text comes as bytes, twenty at a time; end cuts the tape to the text's length. */
    private static int tell(UnsaidWords x, int k, String text) {
        x.end(0);
        for (int i = 0; i < text.length(); i += 20) {
            int[] five = new int[5];
            for (int j = i; j < i + 20; j++) {
                int sign = j < text.length() ? text.charAt(j) : ' ';
                five[(j - i) / 4] = five[(j - i) / 4] << 8 | sign;
            }
            x.feed(five[0], five[1], five[2], five[3], five[4]);
        }
        x.end(text.length());
        return x.text(k);
    }

    private static void show(String what, int answer) {
        System.out.println(what + ": " + answer);
    }
}
