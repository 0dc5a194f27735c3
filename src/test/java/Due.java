/** Counts the answers that are not as due; every test ends with end(). */
final class Due {
    private static int wrong = 0;
    private static int asked = 0;

    private Due() {
    }

    static void is(String call, long got, long want) {
        asked++;
        if (got != want) {
            wrong++;
            System.out.println(call + " answered " + got + ", due is " + want);
        }
    }

    /** Feeds a text and makes it the town. */
    static int tell(SecondLife x, String text) {
        return x.town(feed(x, text));
    }

    /** Feeds a text, filled up with blanks to twenty bytes, and answers its length. */
    static int feed(SecondLife x, String text) {
        int[] words = new int[5];
        for (int from = 0; from < text.length(); from += 20) {
            for (int w = 0; w < 5; w++) {
                words[w] = 0;
                for (int b = 0; b < 4; b++) {
                    int at = from + w * 4 + b;
                    words[w] = words[w] << 8 | (at < text.length() ? text.charAt(at) & 255 : 32);
                }
            }
            x.feed(words[0], words[1], words[2], words[3], words[4]);
        }
        return text.length();
    }

    static SecondLife town(String text) {
        SecondLife x = new SecondLife();
        int lines = tell(x, text);
        if (lines < 1) {
            is("town " + text, lines, 1);
        }
        return x;
    }

    static void fill(SecondLife x, int tray, int sort, long... values) {
        is("numbers", x.numbers(tray, sort, values.length), 0);
        for (int i = 0; i < values.length; i++) {
            x.write(tray, i, values[i]);
        }
    }

    static void end() {
        System.out.println(wrong == 0 ? asked + " answers are as due" : wrong + " of " + asked + " answers are not as due");
        if (wrong != 0) {
            System.exit(1);
        }
    }
}
