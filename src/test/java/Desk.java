/** What the tests share: texts are fed, answers set against those that are due. */
final class Desk {
    /** Three corners in a row, and a long street past the middle one. */
    static final String ROW = "corners 3;street 0 1 1 =======;street 1 2 1 =======;street 0 2 9 =======";

    private final String name;
    private int checks;
    private int wrong;
    private String sentence = "";
    private int sentences;
    private int checksBefore;

    Desk(String name) {
        this.name = name;
    }

    /** What is due from here on is asked for by this sentence of the document. */
    void sentence(String words) {
        endSentence();
        sentence = words + ": ";
        sentences++;
        checksBefore = checks;
    }

    /** A sentence without a check would be a test that can't fail. */
    private void endSentence() {
        if (sentences > 0 && checks == checksBefore) {
            wrong++;
            System.out.println(name + ": " + sentence + "nothing is checked");
        }
    }

    void due(String what, int got, int want) {
        checks++;
        if (got != want) {
            wrong++;
            System.out.println(name + ": " + sentence + what + " answered " + got + ", due is " + want);
        }
    }

    void holds(String what, boolean good) {
        checks++;
        if (!good) {
            wrong++;
            System.out.println(name + ": " + sentence + what + " does not hold");
        }
    }

    void close() {
        endSentence();
        String of = sentences > 0 ? " of " + sentences + " sentences" : "";
        System.out.println(name + ": " + checks + " checks" + of + ", " + wrong + " wrong");
        System.exit(wrong == 0 && checks > 0 ? 0 : 1);
    }

    /** The text, and nothing else, is on the tape. */
    static void say(MondayMaps m, String text) {
        m.end(0);
        for (int at = 0; at < text.length(); at += 20) {
            int[] n = new int[5];
            for (int i = 0; i < 20; i++) {
                int b = at + i < text.length() ? text.charAt(at + i) & 255 : 0;
                n[i / 4] = n[i / 4] << 8 | b;
            }
            m.feed(n[0], n[1], n[2], n[3], n[4]);
        }
        m.end(text.length());
    }

    static int town(MondayMaps m, String text) {
        say(m, text);
        return m.town();
    }

    static int rule(MondayMaps m, String text) {
        say(m, text);
        return m.rule();
    }

    static MondayMaps at(String text) {
        MondayMaps m = new MondayMaps();
        if (town(m, text) < 0) {
            throw new IllegalStateException(text);
        }
        return m;
    }

    /** A town with a map of Monday, and rules. */
    MondayMaps with(String town, String... rules) {
        MondayMaps m = at(town);
        m.print(0);
        for (int i = 0; i < rules.length; i++) {
            due("rule '" + rules[i] + "'", rule(m, rules[i]), i);
        }
        return m;
    }

    /** The text with blanks behind it. */
    static String padded(String text, int length) {
        return text + " ".repeat(length - text.length());
    }

    /** Twelve STREETS, eight SAINTS, four LIFTS: as many CLAUSES as any TOWN can have. */
    static String fullTown() {
        return "corners 2" + ";street0 1 1=======".repeat(12) + ";saint0 0".repeat(8) + ";lift0 0 1".repeat(4);
    }

    /**
     * From 0 one can be at 6 at hour 2065, not sooner: saints shut street 0 on eight Mondays, so that it is begun at
     * 1344, and each street behind it is open on the weekday before the last one's, six days later. 7, 8 are apart.
     */
    static String lateTown() {
        StringBuilder s = new StringBuilder("corners 9;street 0 1 1 >......;street 1 2 1 ......>;"
            + "street 2 3 1 .....>.;street 3 4 1 ....>..;street 4 5 1 ...>...;street 5 6 1 ..>....");
        for (int i = 0; i < 8; i++) {
            s.append(";saint 0 " + 7 * i);
        }
        return s.toString();
    }

    static int fault(int place, int kind) {
        return -2 - (1 + 8 * place + kind);
    }
}
