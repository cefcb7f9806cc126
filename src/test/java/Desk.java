/** What the tests share: texts are fed, answers set against those that are due. */
final class Desk {
    private final String name;
    private int checks;
    private int wrong;

    Desk(String name) {
        this.name = name;
    }

    void due(String what, int got, int want) {
        checks++;
        if (got != want) {
            wrong++;
            System.out.println(name + ": " + what + " answered " + got + ", due is " + want);
        }
    }

    void holds(String what, boolean good) {
        checks++;
        if (!good) {
            wrong++;
            System.out.println(name + ": " + what + " does not hold");
        }
    }

    void close() {
        System.out.println(name + ": " + checks + " checks, " + wrong + " wrong");
        System.exit(wrong == 0 && checks > 0 ? 0 : 1);
    }

    /** The text, and nothing else, is on the tape. */
    static void say(MondayMaps m, String text) {
        m.end(0);
        for (int at = 0; at < text.length(); at += 20) {
            int[] n = new int[5];
            for (int i = 0; i < 20; i++) {
                int b = at + i < text.length() ? text.charAt(at + i) & 255 : 0;
                n[i / 4] = n[i / 4] << 8 | b;
            }
            m.feed(n[0], n[1], n[2], n[3], n[4]);
        }
        m.end(text.length());
    }

    static int town(MondayMaps m, String text) {
        say(m, text);
        return m.town();
    }

    static int rule(MondayMaps m, String text) {
        say(m, text);
        return m.rule();
    }

    static MondayMaps at(String text) {
        MondayMaps m = new MondayMaps();
        if (town(m, text) < 0) {
            throw new IllegalStateException(text);
        }
        return m;
    }

    static int fault(int place, int kind) {
        return -2 - (1 + 8 * place + kind);
    }
}
