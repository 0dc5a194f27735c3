/** Objects in states that edges are asked in. */
final class Made {
    private Made() {
    }

    /**
     * Three PEOPLE in three YEARS and two TRADES: 0 is OVER in LIFE 1, 1 is in LIFE 2 in YEAR 1 of 3, 2 is in YEAR 0 and
     * has PLEDGED for 7, CASH is 23. TRAY 0 has four DEEDS, 1 has no numbers, 2 has a 1 and a 2 (which is no TRADE), 3 is
     * MISSING. IMAGE 0 was made, 1 wasn't. Seven calls can be UNDONE, forty bytes are on THE TAPE.
     */
    static void rich(SecondLife x) {
        Due.tell(x, "town years 3 trades 2;person talent 4 fear 1;person talent 2 fear 0;person talent 1;cash 30;dies 2;"
                + "worth : talent + trade - year;grows : year;");
        x.live(0, 1);
        x.live(0, 0);
        x.draw(1);
        x.pledge(2, 7);
        x.image(0);
        x.live(0, 1);
        x.live(1, 1);
        x.talent(0, 5);
        Due.fill(x, 0, 1, 20, 10, 112, 102);
        Due.fill(x, 1, 0);
        Due.fill(x, 2, 3, 1, 2);
        Due.feed(x, "town years 5 trades 3;person;");
    }

    /** As rich(), but THE TAPE is full. */
    static void full(SecondLife x) {
        rich(x);
        for (int i = 0; i < 43; i++) {
            x.feed(0x20202020, 0x20202020, 0x20202020, 0x20202020, 0x20202020);
        }
    }

    /** A new object. */
    static void nothing(SecondLife x) {
    }

    static SecondLife richOne() {
        SecondLife x = new SecondLife();
        rich(x);
        return x;
    }

    /** A town in which a YEAR in TRADE 3 is WORTH what a law tells to a PERSON of TALENT 7. */
    static SecondLife worth(String law) {
        return Due.town("town years 6 trades 4;person talent 7;worth : " + law + ";");
    }

    static int sum(String law) {
        return worth(law).worth(0, 3);
    }

    /** 1 if a truth holds, else 2. */
    static int truth(String truth) {
        return sum("if " + truth + " then 1 else 2 end");
    }

    static SecondLife fears(int... fears) {
        StringBuilder text = new StringBuilder("town years 1 trades 1;");
        for (int f : fears) {
            text.append("person fear ").append(f).append(";");
        }
        return Due.town(text.toString());
    }
}
