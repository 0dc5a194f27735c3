/** Promises 35 to 40: numbers, write, lists, image, restore, count. */
public final class TraysTest {
    private static final int NO_SUCH = -99000002;
    private static final int BAD_NUMBER = -99000003;
    private static final int NOT_NOW = -99000005;
    private static final int MISSING = -99000006;
    private static final int NO_PLACE = -99000007;

    public static void main(String[] args) {
        numbers();
        write();
        lists();
        images();
        count();
        Due.end();
    }

    // 35
    private static void numbers() {
        SecondLife x = Due.town("town years 1 trades 1;person;");
        Due.is("tray 4", x.numbers(4, 0, 1), NO_SUCH);
        Due.is("tray -1", x.numbers(-1, 0, 1), NO_SUCH);
        Due.is("sort 4", x.numbers(0, 4, 41), NO_SUCH);
        Due.is("sort -1", x.numbers(0, -1, 1), NO_SUCH);
        Due.is("it is missing still", x.perform(0), MISSING);
        Due.is("40", x.numbers(0, 3, 40), 0);
        Due.is("the last", x.write(0, 39, 5), 5);
        Due.is("no 40", x.write(0, 40, 5), NO_PLACE);
        Due.is("41", x.numbers(0, 0, 41), BAD_NUMBER);
        Due.is("-1", x.numbers(0, 0, -1), BAD_NUMBER);
        Due.is("it stays", x.write(0, 39, 1L << 40), 1L << 40);
        Due.is("in its place", x.numbers(0, 0, 2), 0);
        Due.is("sort 0", x.write(0, 1, 256 + 100), 100);
        Due.is("0 is there", x.judge(0, 0), -1);
        x.write(0, 0, 77);
        x.numbers(0, 0, 2);
        Due.is("all 0: it lives, then it is over", x.judge(0, 0), 1);
        Due.is("none", x.numbers(3, 2, 0), 0);
        Due.is("none is not missing", x.judge(3, 0), -1);
    }

    // 36
    private static void write() {
        SecondLife x = new SecondLife();
        Due.is("tray 4", x.write(4, 0, 0), NO_SUCH);
        Due.is("tray -1", x.write(-1, 0, 0), NO_SUCH);
        Due.is("missing", x.write(2, 0, 0), MISSING);
        for (int sort = 0; sort < 4; sort++) {
            x.numbers(sort, sort, 3);
            int bits = 8 << sort;
            long most = (1L << bits - 1) - 1;
            Due.is("-1", x.write(sort, 0, -1), -1);
            Due.is("most", x.write(sort, 1, most), most);
            Due.is("one more", x.write(sort, 1, most + 1), -most - 1);
            Due.is("least", x.write(sort, 1, -most - 1), -most - 1);
            Due.is("3", x.write(sort, 3, 1), NO_PLACE);
            Due.is("-1", x.write(sort, -1, 1), NO_PLACE);
        }
        Due.is("cut", x.write(1, 2, 0x12345), 0x2345);
        Due.is("cut", x.write(2, 2, 0x123456789abL), 0x456789ab);
        Due.is("whole", x.write(3, 2, 0x123456789abL), 0x123456789abL);
    }

    // 37
    private static void lists() {
        SecondLife x = Due.town("town years 2 trades 2;person;person;worth : if life = 2 then 5 - trade else trade - 3 end;grows : 1;");
        Due.is("tray 4", x.lists(4, 0), NO_SUCH);
        Due.is("nobody", x.lists(0, 2), NO_SUCH);
        Due.is("missing", x.lists(0, 0), MISSING);
        Due.fill(x, 0, 0, 100, 10, 55);
        Due.is("it draws, then lives", x.lists(0, 1), 2);
        Due.is("both can be, 55 can't", x.judge(0, 0), 2);
        Due.is("worth", x.judge(0, 2), 5);
        Due.is("who", x.judge(0, 3), 2);
        Due.fill(x, 0, 0, 10);
        Due.is("as far as it has places", x.lists(0, 0), 1);
        Due.is("who", x.judge(0, 3), 1);
        Due.fill(x, 0, 0);
        Due.is("no places", x.lists(0, 0), 0);
        Due.is("nothing was done", x.count(7), 0);
        SecondLife y = Due.town("town years 6 trades 4;person;person;person;person;person;person;worth : if trade = 3 then 9 else 1 end;");
        Due.fill(y, 1, 0, new long[40]);
        Due.is("all thirteen", y.lists(1, 5), 13);
        Due.is("all can be, the rest is person 0's", y.judge(1, 2), 108 + 6);
        Due.is("till its LIFE is over", y.judge(1, 0), 19);
    }

    // 38, 39
    private static void images() {
        SecondLife x = Due.town("town years 2 trades 1;person talent 4;cash 9;worth : 3;");
        Due.is("image 2", x.image(2), NO_SUCH);
        Due.is("image -1", x.image(-1), NO_SUCH);
        Due.is("restore 2", x.restore(2), NO_SUCH);
        Due.is("restore -1", x.restore(-1), NO_SUCH);
        Due.is("none was made", x.restore(0), NOT_NOW);
        x.live(0, 0);
        x.pledge(0, 2);
        Due.is("image", x.image(0), 0);
        Due.is("undoing goes on", x.count(7), 2);
        x.redeem(0);
        x.draw(0);
        x.talent(0, 7);
        Due.is("image", x.image(1), 0);
        Due.tell(x, "town years 3 trades 3;person;person;dies 5;worth : 1;");
        Due.feed(x, "town");
        Due.fill(x, 0, 0, 1);
        Due.tell(x, "?");
        Due.feed(x, "town");
        x.live(1, 2);
        Due.is("restore", x.restore(0), 0);
        Due.is("years", x.count(0), 2);
        Due.is("people", x.count(2), 1);
        Due.is("cash", x.count(3), 7);
        Due.is("lines", x.count(9), 4);
        Due.is("has", x.person(0, 2), 5);
        Due.is("life", x.person(0, 1), 1);
        Due.is("talent", x.person(0, 6), 4);
        Due.is("the law", x.worth(0, 0), 3);
        Due.is("nothing can be undone", x.count(7), 0);
        Due.is("nor", x.undo(1), BAD_NUMBER);
        Due.is("the tape is none of it", x.count(8), 20);
        Due.is("nor the fault", x.fault(0), 2);
        Due.is("nor the trays", x.judge(0, 1), 1);
        Due.is("the other", x.restore(1), 0);
        Due.is("life", x.person(0, 1), 2);
        Due.is("talent", x.person(0, 6), 7);
        Due.is("cash", x.count(3), 9);
        x.live(0, 0);
        Due.is("again", x.restore(1), 0);
        Due.is("the image is as it was", x.person(0, 0), 0);
        Due.is("best by the image's law", x.best(0), 6);
        SecondLife y = new SecondLife();
        y.image(0);
        Due.tell(y, "town years 3 trades 3;person;");
        Due.is("best", y.best(0), 6);
        y.restore(0);
        Due.is("no town", y.count(0), 1);
        Due.is("no people", y.best(0), NO_SUCH);
        Due.is("no lines", y.count(9), 0);
    }

    // 40
    private static void count() {
        SecondLife x = Due.town("town years 5 trades 3;person;person;person;cash 90;worth : trade * 2 - 1;");
        x.live(0, 2);
        x.live(1, 0);
        x.pledge(1, 30);
        x.draw(2);
        Due.feed(x, "town");
        int[] due = {5, 3, 3, 60, 32, 4, 2, 4, 20, 6};
        for (int what = 0; what < 10; what++) {
            Due.is("count " + what, x.count(what), due[what]);
        }
        Due.is("count 10", x.count(10), -1);
        Due.is("count -1", x.count(-1), -1);
        Due.is("count most", x.count(Integer.MAX_VALUE), -1);
    }
}
