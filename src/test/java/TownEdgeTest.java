/** The boundary cases that the document names of a TOWN's text and its FAULTS, of hours, and of what is OPEN. */
public final class TownEdgeTest {
    private static final Desk DESK = new Desk("TownEdgeTest");
    private static final int NONE = MondayMaps.NONE;

    public static void main(String[] args) {
        bytes();
        clauses();
        corners();
        streets();
        signs();
        saints();
        lifts();
        orderTold();
        hours();
        dates();
        open();
        lifted();
        begun();
        firstFault();
        wrongByte();
        everyPrefix();
        wrongNumber();
        tooMany();
        ofOnePlace();
        blanks();
        DESK.close();
    }

    private static void good(String text, int streets) {
        DESK.due("'" + text + "'", Desk.town(new MondayMaps(), text), streets);
    }

    private static void fault(String text, int place, int kind) {
        DESK.due("'" + text + "'", Desk.town(new MondayMaps(), text), Desk.fault(place, kind));
    }

    private static void bytes() {
        DESK.sentence("A TOWN is a text of at most 400 bytes");
        good(Desk.padded("corners 2", 400), 0);
        fault(Desk.padded("corners 2", 399) + "x", 399, 0);
        fault(Desk.padded("corners 2;", 400), 400, 0);
        MondayMaps m = new MondayMaps();
        Desk.say(m, Desk.padded("corners 2", 400));
        DESK.due("byte 401 and on", m.feed(0x3b3b3b3b, 0, 0, 0, 0), NONE);
        DESK.due("the 400 alone are the TOWN", m.town(), 0);
    }

    private static void clauses() {
        DESK.sentence("CLAUSE { ; CLAUSE }, 32 at most");
        MondayMaps m = new MondayMaps();
        DESK.due("as many as any TOWN can have", Desk.town(m, Desk.fullTown()), 12);
        int[] many = {2, 12, 8, 4};
        for (int i = 0; i < 4; i++) {
            DESK.due("count " + i, m.count(i), many[i]);
        }
        int end = Desk.fullTown().length() + 1;
        for (String word : new String[] {"corners", "street", "saint", "lift"}) {
            fault(Desk.fullTown() + ";" + word, end, 4);
        }
        good("corners 2", 0);
        fault("", 0, 0);
        fault(";corners 2", 0, 0);
        fault("corners 2;", 10, 0);
        fault("corners 2;;saint 0 0", 10, 0);
        fault("corners 2,saint 0 0", 9, 0);
    }

    private static void corners() {
        DESK.sentence("corners NUMBER (2 to 10; once, the first CLAUSE)");
        fault("corners 0", 8, 1);
        fault("corners 1", 8, 1);
        fault("corners 11", 8, 1);
        for (int n = 2; n <= 10; n++) {
            MondayMaps m = Desk.at("corners " + n);
            DESK.due("corners " + n, m.count(0), n);
            DESK.due("the last CORNER of " + n, m.came(n - 1), 1);
            DESK.due("none behind it", m.came(n), -2);
        }
        fault("corners 3;corners 3", 10, 4);
        fault("corners 3;saint 0 0;corners 3", 20, 4);
        fault("saint 0 0;corners 3", 0, 4);
        fault("street 0 1 1 =======;corners 3", 0, 4);
        fault("lift 0 1 2;corners 3", 0, 4);
    }

    private static void streets() {
        DESK.sentence("street NUMBER NUMBER NUMBER SIGNS (from a CORNER to another one");
        good("corners 10;street 9 0 1 =======", 1);
        good("corners 10;street 0 9 1 =======", 1);
        fault("corners 10;street 10 0 1 =======", 18, 1);
        fault("corners 10;street 0 10 1 =======", 20, 1);
        fault("corners 10;street 0 0 1 =======", 20, 1);
        fault("corners 10;street 9 9 1 =======", 20, 1);
        MondayMaps m = Desk.at("corners 10;street 9 4 1 =======");
        DESK.due("the one", m.street(0, 0), 9);
        DESK.due("the other", m.street(0, 1), 4);
        DESK.sentence("HOURS 1 to 9");
        fault("corners 10;street 9 0 0 =======", 22, 1);
        fault("corners 10;street 9 0 10 =======", 22, 1);
        for (int h = 1; h <= 9; h++) {
            DESK.due("hours " + h, Desk.at("corners 10;street 9 0 " + h + " =======").street(0, 2), h);
        }
    }

    private static void signs() {
        String head = "corners 2;street 0 1 1 ";
        DESK.sentence("of seven weekdays a SIGN each, no blanks between");
        good(head + "=======", 1);
        fault(head + "======", 29, 0);
        fault(head + "======;saint 0 0", 29, 0);
        fault(head + "====== ;saint 0 0", 29, 0);
        fault(head + "========", 30, 0);
        fault(head + "= ======", 24, 0);
        fault(head + "====== =", 29, 0);
        DESK.sentence(". shut, > to the other one, < back, = both");
        MondayMaps m = Desk.at(head + ".><=<>.");
        int[] want = {0, 1, 2, 3, 2, 1, 0};
        for (int day = 0; day < 7; day++) {
            DESK.due("on weekday " + day, m.street(0, 3 + day), want[day]);
        }
        fault(head + "===-===", 26, 0);
        fault(head + "===3===", 26, 0);
        fault(head + "===\0===", 26, 0);
        fault(head + "===" + (char) 255 + "===", 26, 0);
    }

    private static void saints() {
        DESK.sentence("saint NUMBER NUMBER (a CORNER, a DATE 0 to 359)");
        good("corners 3;saint 2 0", 0);
        good("corners 3;saint 0 359", 0);
        fault("corners 3;saint 3 0", 16, 1);
        fault("corners 3;saint 2 360", 18, 1);
        fault("corners 3;saint 2 99999", 18, 1);
    }

    private static void lifts() {
        String head = "corners 2;street 0 1 1 =======;lift ";
        DESK.sentence("lift NUMBER NUMBER NUMBER (a STREET that was told");
        good(head + "0 1 2", 1);
        fault(head + "1 1 2", 36, 1);
        fault("corners 2;lift 0 1 2", 15, 1);
        fault("corners 2;lift 0 1 2;street 0 1 1 =======", 15, 1);
        fault(head + "1 1 2;street 0 1 1 =======", 36, 1);
        good(head + "0 1 2;street 0 1 1 =======;lift 1 1 2", 2);
        DESK.sentence("hours FROM 0 to 23 to TO 1 to 24, FROM less than TO");
        good(head + "0 0 1", 1);
        good(head + "0 0 24", 1);
        good(head + "0 23 24", 1);
        good(head + "0 22 23", 1);
        fault(head + "0 24 24", 38, 1);
        fault(head + "0 24 25", 38, 1);
        fault(head + "0 0 25", 40, 1);
        fault(head + "0 0 0", 40, 1);
        fault(head + "0 1 1", 40, 1);
        fault(head + "0 9 8", 40, 1);
        fault(head + "0 23 23", 41, 1);
    }

    private static void orderTold() {
        DESK.sentence("CORNERS 0 and on, STREETS 0 to 11, SAINTS 0 to 7, LIFTS 0 to 3, in the order told");
        StringBuilder s = new StringBuilder("corners 10");
        for (int i = 0; i < 12; i++) {
            s.append(";street " + i % 10 + " " + (i + 3) % 10 + " " + (i % 9 + 1) + " " + ".><=".charAt(i % 4) + "......");
        }
        MondayMaps m = Desk.at(s.toString());
        for (int i = 0; i < 12; i++) {
            DESK.due("one of street " + i, m.street(i, 0), i % 10);
            DESK.due("other of street " + i, m.street(i, 1), (i + 3) % 10);
            DESK.due("hours of street " + i, m.street(i, 2), i % 9 + 1);
            DESK.due("sign of street " + i, m.street(i, 3), i % 4);
        }
        DESK.due("a street 12", m.street(12, 2), NONE);
        s = new StringBuilder("corners 3;street 0 1 1 =======");
        for (int i = 0; i < 8; i++) {
            s.append(";saint " + i % 2 + " " + (3 * i + 1));
        }
        m = Desk.at(s.toString());
        for (int i = 0; i < 8; i++) {
            DESK.due("saint " + i, m.open(0, 0, 24 * (3 * i + 1)), 0);
            DESK.due("a day before saint " + i, m.open(0, 0, 24 * (3 * i + 1) - 1), 1);
            DESK.due("a day behind saint " + i, m.open(0, 0, 24 * (3 * i + 2)), 1);
        }
        s = new StringBuilder("corners 2;street 0 1 1 =======");
        for (int i = 0; i < 4; i++) {
            s.append(";lift 0 " + (6 * i + 2) + " " + (6 * i + 4));
        }
        m = Desk.at(s.toString());
        for (int hour = 0; hour < 24; hour++) {
            DESK.due("lifted at " + hour, m.open(0, 1, hour), hour % 6 == 2 || hour % 6 == 3 ? 0 : 1);
        }
    }

    private static void hours() {
        DESK.sentence("HOURS go on from 0: the DAY is hour / 24, the weekday DAY mod 7");
        MondayMaps m = Desk.at("corners 2;street 0 1 1 >......;street 0 1 1 ......>");
        int[][] wanted = {{0, 1, 0}, {23, 1, 0}, {24, 0, 0}, {143, 0, 0}, {144, 0, 1}, {167, 0, 1}, {168, 1, 0},
            {191, 1, 0}, {192, 0, 0}, {168 * 595 - 1, 0, 1}, {168 * 595, 1, 0}, {99999, 0, 0}, {168 * 10000, 1, 0}};
        for (int[] w : wanted) {
            DESK.due("Mondays at " + w[0], m.open(0, 0, w[0]), w[1]);
            DESK.due("Sundays at " + w[0], m.open(1, 0, w[0]), w[2]);
        }
        DESK.due("before 0", m.open(0, 0, -1), NONE);
        DESK.due("before 0", m.open(0, 0, -168), NONE);
        DESK.due("before 0", m.open(0, 0, Integer.MIN_VALUE), NONE);
        DESK.due("the last weekday of all is a Saturday", m.open(0, 0, Integer.MAX_VALUE), 0);
    }

    private static void dates() {
        DESK.sentence("the DATE DAY mod 360");
        MondayMaps last = Desk.at("corners 2;street 0 1 1 =======;saint 0 359");
        MondayMaps first = Desk.at("corners 2;street 0 1 1 =======;saint 1 0");
        int[][] wanted = {{0, 1, 0}, {23, 1, 0}, {24, 1, 1}, {359 * 24 - 1, 1, 1}, {359 * 24, 0, 1}, {360 * 24 - 1, 0, 1},
            {360 * 24, 1, 0}, {361 * 24 - 1, 1, 0}, {361 * 24, 1, 1}, {719 * 24, 0, 1}, {720 * 24, 1, 0},
            {721 * 24, 1, 1}};
        for (int[] w : wanted) {
            DESK.due("last date at " + w[0], last.open(0, 0, w[0]), w[1]);
            DESK.due("first date at " + w[0], first.open(0, 0, w[0]), w[2]);
        }
    }

    private static void open() {
        DESK.sentence("A STREET is OPEN from a CORNER of its two at an hour, if the SIGN of that weekday has it from there");
        MondayMaps m = Desk.at("corners 3;street 2 0 1 .><=.><");
        int[] fromOne = {0, 1, 0, 1, 0, 1, 0};
        int[] fromOther = {0, 0, 1, 1, 0, 0, 1};
        for (int day = 0; day < 7; day++) {
            DESK.due("from the one on " + day, m.open(0, 2, 24 * day + 5), fromOne[day]);
            DESK.due("from the other on " + day, m.open(0, 0, 24 * day + 5), fromOther[day]);
        }
        DESK.due("not of its two", m.open(0, 1, 29), NONE);
        DESK.sentence("neither of its CORNERS has a SAINT on that DATE");
        MondayMaps s = Desk.at("corners 3;street 0 1 1 =======;saint 0 2;saint 1 4;saint 2 6");
        for (int day = 0; day < 8; day++) {
            int want = day == 2 || day == 4 ? 0 : 1;
            DESK.due("from 0 on date " + day, s.open(0, 0, 24 * day), want);
            DESK.due("from 1 on date " + day, s.open(0, 1, 24 * day + 23), want);
        }
    }

    private static void lifted() {
        DESK.sentence("it is not LIFTED (hour mod 24 from FROM to TO less 1)");
        String head = "corners 2;street 0 1 1 =======;street 0 1 1 =======;lift 1 ";
        int[][] lifts = {{5, 8}, {0, 1}, {23, 24}, {0, 24}, {0, 23}, {1, 24}};
        for (int[] l : lifts) {
            MondayMaps m = Desk.at(head + l[0] + " " + l[1]);
            for (int hour = 0; hour < 48; hour++) {
                boolean up = hour % 24 >= l[0] && hour % 24 < l[1];
                DESK.due(l[0] + " to " + l[1] + " at " + hour, m.open(1, hour % 2, hour), up ? 0 : 1);
                DESK.due("the other street at " + hour, m.open(0, hour % 2, hour), 1);
            }
        }
    }

    private static void begun() {
        DESK.sentence("Who begins it then is at its other CORNER so many HOURS later, whatever there is by then");
        MondayMaps m = Desk.at("corners 2;street 0 1 9 >......;saint 1 1;lift 0 0 23");
        DESK.due("begun at 23, on a Monday", m.soonest(0, 1, 0), 32);
        m.print(0);
        m.walker(0, 1, 0, NONE, 23);
        DESK.due("he is there", m.step(0, 1), 1);
        DESK.due("on the saint's Tuesday", m.about(0, 4), 32);
    }

    private static void firstFault() {
        DESK.sentence("FAULTS, the first along the text, 1 + 8 * its place and");
        DESK.due("place 0, kind 0", Desk.town(new MondayMaps(), "x"), -3);
        DESK.due("place 7, kind 0", Desk.town(new MondayMaps(), "corners"), -59);
        DESK.due("place 16, kind 1", Desk.town(new MondayMaps(), "corners 2;saint 5 400"), -132);
        DESK.due("place 10, kind 4", Desk.town(new MondayMaps(), "corners 2;corners 1"), -87);
        fault("corners 1;corners 1", 8, 1);
        fault("corners 2;saint 0 400;x", 18, 1);
        fault("corners 2;street 0 0 0 x", 19, 1);
        fault("corners 2;x;saint 9 9", 10, 0);
    }

    private static void wrongByte() {
        DESK.sentence("0 a byte or WORD that can't stand there");
        fault("Corners 2", 0, 0);
        fault("cornerss 2", 0, 0);
        fault("cornersz2", 0, 0);
        fault("corners{2", 7, 0);
        fault("corners`2", 7, 0);
        fault("corners 2:", 9, 0);
        fault("corners 2/", 9, 0);
        fault("corner 2", 0, 0);
        fault("corners two", 8, 0);
        fault("corners -2", 8, 0);
        fault("corners 2 2", 10, 0);
        fault("corners 2x", 9, 0);
        fault("corners 2;go", 10, 0);
        fault("corners 2;saints 0 0", 10, 0);
        fault("corners 2;saint x 0", 16, 0);
        fault("corners 2;saint 0;", 17, 0);
        fault("corners 2;saint 0 0 0", 20, 0);
        fault("corners 2;street 0 1 =======", 21, 0);
        fault("corners 2;street 0 1 1 =======;lift 0 1;", 39, 0);
        fault("corners 2\0", 9, 0);
        fault("corners " + (char) 178, 8, 0);
    }

    /** Each beginning of a TOWN: a WORD that is cut is one that can't stand there, else the end is the FAULT. */
    private static void everyPrefix() {
        DESK.sentence("or the end (behind the last byte; a SIGN less than seven, too)");
        String whole = "corners 3;street 0 1 2 >=<.>=<;saint 2 7;lift 0 3 9";
        int[] words = {0, 7, 10, 16, 31, 36, 41, 45};
        for (int cut = 0; cut <= whole.length(); cut++) {
            String text = whole.substring(0, cut);
            if (cut == 9 || cut == 30 || cut == 40 || cut == whole.length()) {
                good(text, cut > 9 ? 1 : 0);
                continue;
            }
            int place = cut;
            for (int i = 0; i < words.length; i += 2) {
                place = cut > words[i] && cut < words[i + 1] ? words[i] : place;
            }
            fault(text, place, 0);
        }
        fault("corners   ", 10, 0);
        fault("   ", 3, 0);
    }

    private static void wrongNumber() {
        DESK.sentence("1 a NUMBER of more digits");
        good("corners 00003;street 00000 00001 00009 =======;saint 00002 00359;lift 00000 00001 00002", 1);
        fault("corners 000003", 8, 1);
        fault("corners 3;street 000000 1 1 =======", 17, 1);
        fault("corners 3;street 0 000001 1 =======", 19, 1);
        fault("corners 3;street 0 1 000001 =======", 21, 1);
        fault("corners 3;saint 000000 1", 16, 1);
        fault("corners 3;saint 0 000001", 18, 1);
        fault("corners 3;street 0 1 1 =======;lift 000000 1 2", 36, 1);
        fault("corners 3;street 0 1 1 =======;lift 0 000001 2", 38, 1);
        fault("corners 3;street 0 1 1 =======;lift 0 1 000002", 40, 1);
        fault("corners 4294967298", 8, 1);
        fault("corners 18446744073709551618", 8, 1);
        DESK.sentence("or not as told (a second CORNER that is the first one; TO at it)");
        fault("corners 3;street 2   2 1 =======", 21, 1);
        fault("corners 3;street 2 02 1 =======", 19, 1);
        fault("corners 3;street 0 1 1 =======;lift 0 7   7", 42, 1);
        fault("corners 3;street 0 1 1 =======;lift 0 7 06", 40, 1);
    }

    private static void tooMany() {
        DESK.sentence("4 one CLAUSE too many, a second corners, another CLAUSE ahead of it");
        fault("corners 2; corners 2", 11, 4);
        fault("corners 2;corners", 10, 4);
        fault(" street", 1, 4);
        fault("saint x", 0, 4);
        fault("  lift;corners 2", 2, 4);
        DESK.sentence("a 13th STREET, a ninth SAINT, a fifth LIFT (at its first byte)");
        String streets = "corners 2" + ";street 0 1 1 =======".repeat(12);
        good(streets, 12);
        fault(streets + "; street 0 1 1 =======", streets.length() + 2, 4);
        fault(streets + ";street 9", streets.length() + 1, 4);
        String saints = "corners 2" + ";saint 0 1".repeat(8);
        good(saints, 0);
        fault(saints + "; saint 0 1", saints.length() + 2, 4);
        fault(saints + ";saint 9", saints.length() + 1, 4);
        String lifts = "corners 2;street 0 1 1 =======" + ";lift 0 1 2".repeat(4);
        good(lifts, 1);
        fault(lifts + "; lift 0 1 2", lifts.length() + 2, 4);
        fault(lifts + ";lift 9", lifts.length() + 1, 4);
    }

    private static void ofOnePlace() {
        DESK.sentence("Of one place the least");
        fault("stree 0 1 1 =======", 0, 0);
        fault("corners 2;cornerss", 10, 0);
        String full = Desk.fullTown();
        fault(full + ";streets", full.length() + 1, 0);
        fault(full + ";5", full.length() + 1, 0);
        fault(full + ";", full.length() + 1, 0);
    }

    private static void blanks() {
        DESK.sentence("Blanks (32) stand between as one likes");
        good("corners2;street0 1 1=======;saint0 0;lift0 1 2", 1);
        good("  corners  2  ;  street  0  1  1  =======  ;  saint  0  0  ;  lift  0  1  2  ", 1);
        fault("corners\t2", 7, 0);
        fault("corners\n2", 7, 0);
        fault("corners" + (char) 160 + "2", 7, 0);
        fault("corner s2", 0, 0);
        fault("corners 2;saint 0 3 5", 20, 0);
        fault("corners 1 0", 8, 1);
    }
}
