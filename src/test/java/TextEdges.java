/** The edges of a town's text and its faults, and of promises 1 to 4: a new object, feed, town, fault. */
final class TextEdges {
    /** Twenty-two bytes. */
    private static final String HEAD = "town years 1 trades 1;";
    private static final String SIGNS = ";:+-*()[]=<>";

    private TextEdges() {
    }

    static void all() {
        newObject();
        useOfAnObject();
        longestText();
        head();
        lines();
        flags();
        years();
        trades();
        people();
        cash();
        dies();
        laterLinesStrike();
        tokens();
        blanks();
        words();
        digits();
        signs();
        firstFault();
        faultOne();
        faultTwo();
        faultThree();
        faultFour();
        feed();
        town();
        townRefused();
        fault();
    }

    private static int told(String text) {
        return Due.tell(new SecondLife(), text);
    }

    private static void fault(String text, int kind, int place) {
        SecondLife x = new SecondLife();
        Edge.no(30 + kind, "town of " + text, Due.tell(x, text));
        Edge.is("fault(0) of " + text, x.fault(0), kind);
        Edge.is("fault(1) of " + text, x.fault(1), place);
    }

    private static String line(String line) {
        return HEAD + line;
    }

    // ---- a new object

    private static void newObject() {
        Edge.sentence(1, "1 YEAR, 1 TRADE, no PEOPLE.");
        SecondLife x = new SecondLife();
        Edge.is("YEARS", x.count(0), 1);
        Edge.is("TRADES", x.count(1), 1);
        Edge.is("PEOPLE", x.count(2), 0);
        Edge.no(2, "person(0, 0)", Made::nothing, y -> y.person(0, 0));
        Edge.no(11, "live(0, 0)", Made::nothing, y -> y.live(0, 0));
        Edge.no(11, "talent(0, 0)", Made::nothing, y -> y.talent(0, 0));
        Edge.is("all HAVE", x.count(4), 0);
        Edge.is("in LIFE 2", x.count(5), 0);
        Edge.is("have PLEDGED", x.count(6), 0);
        Edge.is("can be UNDONE", x.count(7), 0);
        Edge.is("bytes", x.count(8), 0);
        Edge.is("LINES", x.count(9), 0);

        Edge.sentence(1, "(without one: 1 YEAR, 1 TRADE, no PEOPLE, CASH 0)");
        SecondLife y = new SecondLife();
        Due.tell(y, "town years 7");
        int[] due = {1, 1, 0, 0};
        for (int what = 0; what < due.length; what++) {
            Edge.is("new: count " + what, x.count(what), due[what]);
            Edge.is("a text with a FAULT is none: count " + what, y.count(what), due[what]);
        }
    }

    private static void useOfAnObject() {
        Edge.sentence(1, "An object is used for at most 512 calls after it has been made;");
        SecondLife x = new SecondLife();
        int calls = Due.feed(x, "town years 6 trades 4;person;worth : trade;") / 20 + 1;
        x.town(43);
        calls++;
        while (calls < 508) {
            Edge.is("live", x.live(0, 3), 3);
            Edge.is("undo", x.undo(1), 0);
            calls += 2;
        }
        Edge.is("best, late", x.best(0), 36);
        Edge.is("live, late", x.live(0, 2), 2);
        Edge.is("calls ahead of the last two", calls + 2, 510);
        Edge.is("the 511th call", x.person(0, 0), 1);
        Edge.is("the 512th call", x.person(0, 2), 2);

        Edge.sentence(1, "what later calls answer is free.");
        for (int i = 0; i < 200000; i++) {
            x.talent(0, i % 10);
            if (i % 100 == 0) {
                x.best(0);
                x.mean(0, 0);
                x.hope(0, 9, 0);
            }
        }
        Edge.holds("but none throws", true);
    }

    // ---- the text

    private static void longestText() {
        Edge.sentence(3, "THE TOWN is a TEXT of at most 900 bytes");
        String start = "town years 2 trades 1;person;";
        String text = start + " ".repeat(900 - start.length() - 7) + "cash 8;";
        SecondLife x = new SecondLife();
        Due.feed(x, text);
        Edge.is("900 bytes", x.town(900), 3);
        Edge.is("the last LINE", x.count(3), 8);
        Due.feed(x, text);
        Edge.no(32, "899 of them", x.town(899));
        Edge.is("they end there", x.fault(1), 899);
        StringBuilder law = new StringBuilder(HEAD + "person talent 1;worth:1");
        while (law.length() < 897) {
            law.append(law.length() % 4 == 1 ? "+1" : "-1");
        }
        SecondLife y = new SecondLife();
        Due.feed(y, law + " ;");
        int ones = 1;
        for (int i = (HEAD + "person talent 1;worth:1").length(); i < law.length(); i += 2) {
            ones += law.charAt(i) == '+' ? 1 : -1;
        }
        Edge.is("a law as long as it can be", y.town(law.length() + 2), 3);
        Edge.is("it is read to its end", y.worth(0, 0), ones);
    }

    private static void head() {
        Edge.sentence(3, "town years N trades N ; { LINE ; }");
        Edge.is("no LINE behind", told(HEAD), 1);
        Edge.is("one", told(HEAD + "person;"), 2);
        Edge.is("twelve", told(HEAD + "cash 1;".repeat(12)), 13);
        fault("", 2, 0);
        fault("town", 2, 4);
        fault("town years", 2, 10);
        fault("town years 1", 2, 12);
        fault("town years 1 trades", 2, 19);
        fault("town years 1 trades 1", 2, 21);
        fault("years 1 trades 1;", 2, 0);
        fault("town trades 1 years 1;", 2, 5);
        fault("town 1 years 1 trades;", 2, 5);
        fault("town years 1 1;", 2, 13);
        fault("town years 1 trades 1 1;", 2, 22);
        fault("town years 1 trades 1 person;", 2, 22);
        fault(HEAD + "person", 2, 28);
        fault(HEAD + "person person;", 2, 29);
        fault(HEAD + ";", 2, 22);
        fault(HEAD + "person;;", 2, 29);
    }

    private static void lines() {
        Edge.sentence(3, "LINE: person { FLAG } | cash N | dies N | worth : SUM | grows : SUM.");
        Edge.is("one of each", told(HEAD + "person;cash 1;dies 1;worth : 1;grows : 1;"), 6);
        fault(line("cash;"), 2, 26);
        fault(line("cash :1;"), 2, 27);
        fault(line("cash 1 2;"), 2, 29);
        fault(line("cash 1+1;"), 2, 28);
        fault(line("dies;"), 2, 26);
        fault(line("dies x;"), 2, 27);
        fault(line("worth;"), 2, 27);
        fault(line("worth 1;"), 2, 28);
        fault(line("worth :;"), 2, 29);
        fault(line("worth : 1 2;"), 2, 32);
        fault(line("grows;"), 2, 27);
        fault(line("grows :;"), 2, 29);
        fault(line("person 1;"), 2, 29);
        fault(line("people;"), 2, 22);
        fault(line("talent 1;"), 2, 22);
        fault(line("years 1;"), 2, 22);
        fault(line("1;"), 2, 22);
    }

    private static void flags() {
        Edge.sentence(3, "FLAG: talent N | fear N.");
        Edge.is("none", told(line("person;")), 2);
        Edge.is("talent", told(line("person talent 1;")), 2);
        Edge.is("fear", told(line("person fear 1;")), 2);
        Edge.is("many", told(line("person fear 1 talent 1 talent 2 fear 2;")), 2);
        fault(line("person talent;"), 2, 35);
        fault(line("person fear;"), 2, 33);
        fault(line("person talent fear 1;"), 2, 36);
        fault(line("person talent 1 1;"), 2, 38);
        fault(line("person cash 1;"), 2, 29);
        fault(line("person talent : 1;"), 2, 36);
    }

    private static void years() {
        Edge.sentence(3, "years: how many a life has, 1 to 6;");
        for (int years = 1; years <= 6; years++) {
            SecondLife x = Due.town("town years " + years + " trades 1;person;");
            Edge.is("YEARS", x.count(0), years);
            for (int i = 0; i < years; i++) {
                Edge.is("a YEAR of " + years, x.live(0, 0), 1);
            }
            Edge.no(12, "one more than " + years, x.live(0, 0));
        }
        fault("town years 0 trades 1;", 3, 11);
        fault("town years 7 trades 1;", 3, 11);
        fault("town years 999 trades 1;", 3, 11);
    }

    private static void trades() {
        Edge.sentence(3, "trades: 1 to 4, numbered from 0 on.");
        for (int trades = 1; trades <= 4; trades++) {
            SecondLife x = Due.town("town years 6 trades " + trades + ";person;");
            Edge.is("TRADES", x.count(1), trades);
            for (int t = 0; t < trades; t++) {
                Edge.is("TRADE " + t + " of " + trades, x.live(0, t), 1);
            }
            Edge.no(11, "TRADE " + trades, x.live(0, trades));
            Edge.no(11, "TRADE -1", x.live(0, -1));
        }
        fault("town years 1 trades 0;", 3, 20);
        fault("town years 1 trades 5;", 3, 20);
        fault("town years 1 trades 999;", 3, 20);
    }

    private static void people() {
        Edge.sentence(5, "person: talent 0 to 9 (0), fear 0 to 9 (9);");
        for (int n = 0; n <= 9; n++) {
            SecondLife x = Due.town(line("person talent " + n + ";person fear " + n + ";"));
            Edge.is("talent " + n, x.person(0, 6), n);
            Edge.is("no fear told", x.person(0, 7), 9);
            Edge.is("no talent told", x.person(1, 6), 0);
            Edge.is("fear " + n, x.person(1, 7), n);
        }
        fault(line("person talent 10;"), 3, 36);
        fault(line("person fear 10;"), 3, 34);
        fault(line("person talent 999;"), 3, 36);

        Edge.sentence(5, "later ones strike;");
        SecondLife y = Due.town(line("person talent 9 fear 8 talent 0 fear 1;person fear 2;"));
        Edge.is("talent", y.person(0, 6), 0);
        Edge.is("fear", y.person(0, 7), 1);
        Edge.is("not of the next one", y.person(1, 6), 0);
        Edge.is("nor this", y.person(1, 7), 2);
        fault(line("person talent 10 talent 1;"), 3, 36);

        Edge.sentence(5, "numbered from 0 on, 6 at most.");
        StringBuilder six = new StringBuilder();
        for (int p = 0; p < 6; p++) {
            six.append("person talent ").append(p + 1).append(";");
        }
        SecondLife z = Due.town(line(six.toString()));
        Edge.is("PEOPLE", z.count(2), 6);
        for (int p = 0; p < 6; p++) {
            Edge.is("PERSON " + p, z.person(p, 6), p + 1);
        }
        Edge.no(2, "PERSON 6", z.person(6, 6));
        Edge.no(2, "PERSON -1", z.person(-1, 6));
        fault(line(six + "person;"), 4, 22 + six.length());
    }

    private static void cash() {
        Edge.sentence(3, "cash: 0 to 999 (0).");
        Edge.is("0", Due.town(line("cash 0;")).count(3), 0);
        Edge.is("999", Due.town(line("cash 999;")).count(3), 999);
        Edge.is("not told", Due.town(line("person;")).count(3), 0);
        fault(line("cash 1000;"), 1, 27);
    }

    private static void dies() {
        Edge.sentence(22, "dies: how likely, in 10, 0 to 10 (0).");
        String town = line("person;worth : 5;grows : 1;");
        Edge.is("0: it lives", Due.town(town + "dies 0;").mean(0, 0), 5);
        Edge.is("1 in 10", Due.town(town + "dies 1;").mean(0, 0), 9);
        Edge.is("of 2", Due.town(town + "dies 1;").mean(0, 1), 2);
        Edge.is("9 in 10", Due.town(town + "dies 9;").mean(0, 1), 2);
        Edge.is("10: it dies", Due.town(town + "dies 10;").mean(0, 0), 0);
        Edge.is("not told", Due.town(town).mean(0, 0), 5);
        fault(line("dies 11;"), 3, 27);
        fault(line("dies 999;"), 3, 27);
    }

    private static void laterLinesStrike() {
        Edge.sentence(3, "Later ones of cash, dies, worth, grows strike.");
        SecondLife x = Due.town("town years 2 trades 1;worth : 9;grows : 0;cash 9;dies 10;person;"
                + "dies 5;grows : 1;cash 4;worth : 2;grows : 2;");
        Edge.is("LINES", x.count(9), 11);
        Edge.is("cash", x.count(3), 4);
        Edge.is("worth", x.worth(0, 0), 2);
        Edge.is("grows", x.grown(0), 2);
        Edge.is("dies: 1/2 (2 + 1/2 2)", x.mean(0, 0), 3);
        Edge.is("below", x.mean(0, 1), 2);
    }

    // ---- tokens

    private static void tokens() {
        Edge.sentence(3, "TOKENS, as long as they go on,");
        fault("townyears 1 trades 1;", 2, 0);
        fault("town years 1 tradess 1;", 2, 13);
        fault(line("persontalent 1;"), 2, 22);
        fault(line("person talent 11;"), 3, 36);
        fault(line("cash 11 1;"), 2, 30);
        Edge.is("12 is no 1 and 2", Due.town(line("cash 12;")).count(3), 12);
        Edge.is("a word ends at a digit, a digit at a word", told("town years1trades1;person talent1fear1;cash2;"), 3);
        Edge.is("a sign ends by itself", Made.sum("((1))"), 1);
    }

    private static void blanks() {
        Edge.sentence(3, "between them blanks (10, 32):");
        Edge.is("10 and 32", told("\n town\nyears 1\n\n  trades 1 \n;\n"), 1);
        Edge.is("ahead of all and behind all", told("   " + HEAD + "   "), 1);
        char[] others = {0, 1, 9, 11, 12, 13, 31, 127, 128, 160, 255};
        for (char c : others) {
            fault(HEAD + c, 1, 22);
            fault("town" + c + "years 1 trades 1;", 1, 4);
        }
        fault("   ", 2, 3);
    }

    private static void words() {
        Edge.sentence(3, "words (small letters),");
        fault("Town years 1 trades 1;", 1, 0);
        fault("tOwn years 1 trades 1;", 2, 0);
        fault("town yearS 1 trades 1;", 2, 5);
        for (char c = 'a'; c <= 'z'; c++) {
            fault(HEAD + c, 2, 22);
            fault(HEAD + (char) (c - 32), 1, 22);
        }
        fault(HEAD + "`", 1, 22);
        fault(HEAD + "{", 1, 22);
    }

    private static void digits() {
        Edge.sentence(3, "N (1 to 3 digits),");
        Edge.is("1", Due.town(line("cash 7;")).count(3), 7);
        Edge.is("2", Due.town(line("cash 07;")).count(3), 7);
        Edge.is("3", Due.town(line("cash 007;")).count(3), 7);
        fault(line("cash 0007;"), 1, 27);
        for (char c = '0'; c <= '9'; c++) {
            Edge.is("digit " + c, Due.town(line("cash " + c + ";")).count(3), c - '0');
        }
        fault(line("cash /;"), 1, 27);
    }

    private static void signs() {
        Edge.sentence(3, "the signs ; : + - * ( ) [ ] = < >.");
        for (int b = 33; b < 256; b++) {
            char c = (char) b;
            boolean token = SIGNS.indexOf(c) >= 0 || c >= 'a' && c <= 'z' || c >= '0' && c <= '9';
            fault("town years 1 trades 1 " + (c == ';' ? ";;" : c), token ? 2 : 1, c == ';' ? 23 : 22);
        }
    }

    // ---- faults

    private static void firstFault() {
        Edge.sentence(4, "FAULTS, the first along the text, of one TOKEN the least kind:");
        fault("town years 9 trades 1;?", 3, 11);
        fault("town years 9 trades 9;", 3, 11);
        fault("town trades ? years 9;", 2, 5);
        fault("town years ? trades 9;", 1, 11);
        fault(line("person;".repeat(6) + "person ?;"), 4, 64);
        fault(line("person;".repeat(5) + "person ?;person;"), 1, 64);
        fault(line("worth : ((((((( ?"), 4, 36);
        fault(line("worth : (((((( ? ("), 1, 37);
        // one that can't stand there isn't out of its bounds, nor too many
        fault("town 9 years 1 trades 1;", 2, 5);
        fault(line("person;".repeat(6) + "cash person;"), 2, 69);
        fault(line("worth : ((((((1("), 2, 37);
        fault(line("worth : ((((((not"), 2, 36);
        fault(line("worth : (((((([1"), 2, 36);
        // nor is it such as no TOKEN is, which comes ahead of all
        fault("9999 town", 1, 0);
        fault("town years 9999 trades 1;", 1, 11);
    }

    private static void faultOne() {
        Edge.sentence(4, "1 no TOKEN begins so (4 digits and more: at their first).");
        fault("?", 1, 0);
        fault("town?", 1, 4);
        fault("town ?", 1, 5);
        fault(line("cash 0001;"), 1, 27);
        fault(line("cash 12345;"), 1, 27);
        fault(line("cash " + "1".repeat(800)), 1, 27);
        fault(line("cash " + "9".repeat(870)), 1, 27);
        fault(line("person 1234"), 1, 29);
        fault(line("1234"), 1, 22);
        fault(line("cash 1" + (char) 200), 1, 28);
    }

    private static void faultTwo() {
        Edge.sentence(4, "2 it can't stand there");
        fault("person;", 2, 0);
        fault("; town years 1 trades 1;", 2, 0);
        fault(line("worth : )"), 2, 30);
        fault(line("worth : then"), 2, 30);
        fault(line("worth : 1 end;"), 2, 32);

        Edge.sentence(4, "(the end: the text's length;");
        fault("", 2, 0);
        fault("      ", 2, 6);
        fault("town years 1 trades 1", 2, 21);
        fault("town years 1 trades 1   ", 2, 24);
        fault(line("worth : 1 +\n"), 2, 34);
        SecondLife x = new SecondLife();
        Due.feed(x, HEAD + "person;");
        Edge.no(32, "what is told is the text", x.town(20));
        Edge.is("its length", x.fault(1), 20);
        SecondLife y = new SecondLife();
        Due.feed(y, " ".repeat(900));
        Edge.no(32, "900 blanks", y.town(900));
        Edge.is("the longest", y.fault(1), 900);

        Edge.sentence(4, "town must be told first, and once;");
        fault("cash 1;" + HEAD, 2, 0);
        fault(HEAD + HEAD, 2, 22);
        fault(line("cash 1;" + HEAD), 2, 29);
        fault(line("town"), 2, 22);
        fault("town town years 1 trades 1;", 2, 5);

        Edge.sentence(4, "a word of the other law).");
        String[] words = {"trade", "last", "streak", "life", "old"};
        for (String w : words) {
            Edge.is(w + " in worth", told(line("worth : " + w + ";")), 2);
            fault(line("grows : " + w + ";"), 2, 30);
            fault(line("grows : if 1 = " + w + " then 1 else 1 end;"), 2, 37);
            fault(line("worth : " + w + ";grows : 1 + " + w + ";"), 2, 43 + w.length());
            Edge.is(w + " in worth behind grows", told(line("grows : 1;worth : " + w + ";")), 3);
        }
        Edge.is("talent and year are of both", told(line("grows : talent + year;worth : talent + year;")), 3);
    }

    private static void faultThree() {
        Edge.sentence(4, "3 an N out of its bounds.");
        fault("town years 0", 3, 11);
        fault("town years 7", 3, 11);
        fault("town years 1 trades 0", 3, 20);
        fault("town years 1 trades 5", 3, 20);
        fault(line("person talent 10"), 3, 36);
        fault(line("person fear 10"), 3, 34);
        fault(line("dies 11"), 3, 27);
        Edge.is("in a law all can be", told(line("worth : 0 + 999;")), 2);
    }

    private static void faultFour() {
        Edge.sentence(4, "4 the first TOKEN of a 7th person;");
        String six = "person;".repeat(6);
        Edge.is("six", told(line(six)), 7);
        fault(line(six + "person"), 4, 64);
        fault(line(six + "cash 1;\n person talent 99;"), 4, 73);
        fault(line(six + "persons;"), 2, 64);

        Edge.sentence(4, "a seventh of not [ ( if.");
        fault(line("worth : (((((((1)))))));"), 4, 36);
        fault(line("grows : (((((((1)))))));"), 4, 36);
        fault(line("worth : if not not not not not not 1 = 1 then 1 else 1 end;"), 4, 53);
        fault(line("worth : if [[[[[[1 = 1]]]]]] then 1 else 1 end;"), 4, 38);
        String ifs = "if 1 = 1 then ";
        fault(line("worth : " + ifs.repeat(6) + "if"), 4, 30 + 6 * ifs.length());
        fault(line("worth : " + ifs.repeat(6) + "("), 4, 30 + 6 * ifs.length());
        fault(line("worth : if 1 = 1 then 1 else ((((((1"), 4, 56);
        fault(line("worth : if 1 = ((((((1"), 4, 42);
        fault(line("worth : if ((((((1"), 4, 38);
    }

    // ---- feed

    private static void feed() {
        Edge.sentence(2, "Twenty bytes come behind those on THE TAPE,");
        SecondLife x = new SecondLife();
        x.feed(0x746f776e, 0x20796561, 0x72732033, 0x20747261, 0x64657320);
        x.feed(0x323b6361, 0x73682037, 0x3b202020, 0x20202020, 0x20202020);
        Edge.is("town years 3 trades 2;cash 7;", x.town(40), 2);
        Edge.is("YEARS", x.count(0), 3);
        Edge.is("CASH", x.count(3), 7);

        Edge.sentence(2, "the highest of each int first:");
        SecondLife y = new SecondLife();
        y.feed(0x746f776e, 0x20202020, 0x20202020, 0x20202020, 0x2020203f);
        Edge.no(31, "town and a ? at 19", y.town(20));
        Edge.is("the last byte", y.fault(1), 19);
        int[] marks = {0x3f000000, 0x203f0000, 0x20203f00, 0x2020203f};
        for (int i = 0; i < 20; i++) {
            int[] w = {0x20202020, 0x20202020, 0x20202020, 0x20202020, 0x20202020};
            w[i / 4] = marks[i % 4];
            y.feed(w[0], w[1], w[2], w[3], w[4]);
            Edge.no(31, "a ? at " + i, y.town(20));
            Edge.is("its place", y.fault(1), i);
        }
        y.feed(-1, -1, -1, -1, -1);
        Edge.no(31, "bytes of 255", y.town(20));
        Edge.is("the first", y.fault(1), 0);

        Edge.sentence(2, "how many it has.");
        SecondLife z = new SecondLife();
        for (int k = 1; k <= 45; k++) {
            Edge.is("feed " + k, z.feed(0, 0, 0, 0, 0), 20 * k);
        }
        z.town(0);
        Edge.is("anew", z.feed(0, 0, 0, 0, 0), 20);

        Edge.sentence(2, "-5: it would have more than 900.");
        Edge.is("900 can be", fed(44).feed(0, 0, 0, 0, 0), 900);
        Edge.no(5, "920 can't", fed(45).feed(0, 0, 0, 0, 0));
        Edge.no(5, "feed on a full tape", Made::full, a -> a.feed(0x3f3f3f3f, 1, 2, 3, 4));
        SecondLife f = fed(45);
        f.feed(0x3f3f3f3f, 0, 0, 0, 0);
        Edge.is("it has what it had", f.count(8), 900);
    }

    private static SecondLife fed(int times) {
        SecondLife x = new SecondLife();
        for (int i = 0; i < times; i++) {
            x.feed(0x20202020, 0x20202020, 0x20202020, 0x20202020, 0x20202020);
        }
        return x;
    }

    // ---- town

    private static void town() {
        Edge.sentence(3, "The first n bytes of THE TAPE");
        SecondLife x = new SecondLife();
        Due.feed(x, HEAD + "person;person;??");
        Edge.is("36 of 40", x.town(36), 3);
        Due.feed(x, HEAD + "personal");
        Edge.no(32, "a word is cut", x.town(28));
        Edge.is("at the end", x.fault(1), 28);
        Due.feed(x, HEAD + "cash 1234;");
        Edge.no(32, "digits are cut", x.town(30));
        Edge.is("at the end", x.fault(1), 30);
        Due.feed(x, HEAD);
        Edge.no(32, "none of them", x.town(0));
        Edge.is("at the end", x.fault(1), 0);

        Edge.sentence(3, "(which is empty then)");
        SecondLife y = new SecondLife();
        Due.feed(y, HEAD + "person;");
        y.town(29);
        Edge.is("read", y.count(8), 0);
        Due.feed(y, HEAD + "person;");
        y.town(22);
        Edge.is("the rest is gone too", y.count(8), 0);
        Edge.no(3, "so there is none", y.town(1));
        Due.feed(y, HEAD + "?");
        y.town(23);
        Edge.is("with a FAULT", y.count(8), 0);
        Due.feed(y, HEAD);
        y.town(0);
        Edge.is("with none of it", y.count(8), 0);

        Edge.sentence(3, "are THE TOWN,");
        SecondLife z = Made.richOne();
        Edge.is("in place of another one", z.town(29), 2);
        int[] due = {5, 3, 1, 0, 0, 0, 0, 0, 0, 2};
        for (int what = 0; what < due.length; what++) {
            Edge.is("count " + what, z.count(what), due[what]);
        }
        Edge.is("no law is left", z.worth(0, 2), 1);
        Edge.is("nor this one", z.grown(0), 0);
        Edge.is("nor who dies", z.mean(0, 0), 10);
        Edge.is("nor a talent", z.person(0, 6), 0);

        SecondLife v = new SecondLife();
        for (int n = 1; n <= 3; n++) {
            Due.tell(v, "town years 1 trades 1;person;worth : " + n + ";grows : 0;dies 0;");
            asked(v, 2 * n);
            Due.tell(v, "town years 1 trades 1;person;worth : " + n + ";grows : 1;dies 0;");
            asked(v, n);
        }

        Edge.sentence(3, "all are in LIFE 1, YEAR 0,");
        SecondLife w = Made.richOne();
        Due.tell(w, "");
        w.town(0);
        Due.tell(w, "town years 3 trades 2;person;person;person;");
        for (int p = 0; p < 3; p++) {
            int[] fresh = {0, 1, 0, 9, 0, 0, 0, 9, 0};
            for (int what = 0; what < fresh.length; what++) {
                Edge.is("person " + p + " " + what, w.person(p, what), fresh[what]);
            }
        }

        Edge.sentence(3, "nothing can be UNDONE:");
        SecondLife u = Made.richOne();
        Edge.is("ahead", u.count(7), 7);
        u.town(29);
        Edge.is("then", u.count(7), 0);
        Edge.no(3, "undo(1)", u.undo(1));

        Edge.sentence(3, "how many LINES (town, too;");
        Edge.is("town alone", told(HEAD), 1);
        Edge.is("LINES that are struck too", told(line("cash 1;cash 2;worth : 1;worth : 2;")), 5);
        Edge.is("as many as there can be", told(HEAD + "cash 1;".repeat(125)), 126);
    }

    private static void asked(SecondLife x, int due) {
        Edge.is("best by the new TOWN", x.best(0), due);
        Edge.is("mean by the new TOWN", x.mean(0, 0), due);
        Edge.is("hope by the new TOWN", x.hope(0, due, 0), 1);
        Edge.is("no more", x.hope(0, due + 1, 0), 0);
        Edge.is("soonest by the new TOWN", x.soonest(0, due + 1), Edge.NONE);
    }

    private static void townRefused() {
        Edge.sentence(3, "all stays with a FAULT).");
        String[] faulty = {"", "?", HEAD + "cash 5;person;person;worth : 9;grows : 1;dies 10;oops", "town years 9",
            HEAD + "person;".repeat(7), HEAD + "worth : ((((((("};
        for (String text : faulty) {
            SecondLife x = Made.richOne();
            x.town(0);
            Due.tell(x, text);
            int[] due = {3, 2, 3, 23, 21, 2, 4, 7, 0, 8};
            for (int what = 0; what < due.length; what++) {
                Edge.is("behind \"" + text + "\" count " + what, x.count(what), due[what]);
            }
            int[] second = {1, 2, 3, 1, 1, 0, 2, 0, 0};
            for (int what = 0; what < second.length; what++) {
                Edge.is("behind \"" + text + "\" person 1 " + what, x.person(1, what), second[what]);
            }
            Edge.is("the law", x.worth(1, 0), 1);
            Edge.is("the other law", x.grown(0), 3);
            Edge.is("what can be UNDONE", x.undo(7), 0);
            Edge.is("is as it was", x.count(3), 30);
        }

        Edge.sentence(3, "-3: n is below 0 or above what there is (THE TAPE stays);");
        int[] wrong = {-1, Edge.LEAST, 41, 900, 901, Edge.MOST};
        for (int n : wrong) {
            Edge.no(3, "town(" + n + ")", Made::rich, x -> x.town(n));
            SecondLife x = Made.richOne();
            x.town(n);
            Edge.is("bytes behind town(" + n + ")", x.count(8), 40);
            Edge.is("they are read still", x.town(29), 2);
        }
        Edge.no(3, "town(1) of an empty tape", Made::nothing, x -> x.town(1));
        Edge.is("just as many as there are", Made.richOne().town(40), 2);

        Edge.sentence(3, "-30 less the FAULT.");
        Edge.is("1", told("?"), -99000031);
        Edge.is("2", told(""), -99000032);
        Edge.is("3", told("town years 7"), -99000033);
        Edge.is("4", told(HEAD + "person;".repeat(7)), -99000034);
    }

    // ---- fault

    private static void fault() {
        Edge.sentence(4, "Of the latest town() that was read,");
        SecondLife x = new SecondLife();
        Due.tell(x, HEAD + "?");
        Due.tell(x, "town years 9");
        Edge.is("the latest", x.fault(0), 3);
        Edge.is("its place", x.fault(1), 11);
        x.town(1);
        x.town(-1);
        Edge.is("refused by -3 it wasn't read", x.fault(0), 3);
        Edge.is("its place", x.fault(1), 11);
        x.image(0);
        Due.tell(x, HEAD);
        Edge.is("one without", x.fault(0), 0);
        Edge.is("no place", x.fault(1), Edge.NONE);
        x.restore(0);
        Edge.is("restore() reads none", x.fault(0), 0);
        x.town(0);
        Edge.is("an empty one is read", x.fault(0), 2);

        Edge.sentence(4, "what 0: its FAULT (0),");
        Edge.is("none was read", new SecondLife().fault(0), 0);
        Edge.is("one without", Due.town(HEAD).fault(0), 0);

        Edge.sentence(4, "1: its place (NONE).");
        Edge.is("none was read", new SecondLife().fault(1), Edge.NONE);
        Edge.is("one without", Due.town(HEAD).fault(1), Edge.NONE);

        Edge.sentence(4, "NONE for others.");
        SecondLife y = new SecondLife();
        Due.tell(y, "?");
        int[] others = {-1, 2, 3, Edge.LEAST, Edge.MOST};
        for (int what : others) {
            Edge.is("fault(" + what + ")", y.fault(what), Edge.NONE);
            Edge.same(Edge.NONE, "fault(" + what + ")", Made::rich, z -> z.fault(what));
        }
    }
}
