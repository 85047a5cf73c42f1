/** What all tests share: compares answers, feeds texts, and ends with the exit code that is due. */
final class Check {
    private final String name;
    private int wrong;
    private int asked;

    Check(String name) {
        this.name = name;
    }

    void due(String call, long got, long want) {
        asked++;
        if (got != want) {
            wrong++;
            System.out.println(name + ": " + call + " answered " + got + ", due is " + want);
        }
    }

    void close() {
        System.out.println(name + ": " + asked + " answers, " + wrong + " not as due");
        if (wrong != 0 || asked == 0) {
            System.exit(1);
        }
    }

    /** Puts a text behind the tape, without the blanks that fill its last feed; the tape must be empty. */
    static void tape(SpentTurns s, String text) {
        for (int i = 0; i < text.length(); i += 20) {
            s.feed(four(text, i), four(text, i + 4), four(text, i + 8), four(text, i + 12), four(text, i + 16));
        }
        s.end(text.length());
    }

    static int four(String text, int at) {
        int number = 0;
        for (int i = at; i < at + 4; i++) {
            number = number << 8 | (i < text.length() ? text.charAt(i) : ' ') & 255;
        }
        return number;
    }

    static SpentTurns town(String text) {
        SpentTurns s = new SpentTurns();
        tape(s, text);
        s.town();
        return s;
    }

    /** Puts a row of numbers into a slot. */
    static void row(SpentTurns s, int slot, int width, long... numbers) {
        s.row(slot, width, numbers.length);
        for (int i = 0; i < numbers.length; i++) {
            s.write(slot, i, numbers[i]);
        }
    }
}
