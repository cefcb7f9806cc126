/** The boundary cases that the third part of the document names of SOONEST, WAY, CHEAP, WAYS, WEEKDAYS and BUILT. */
public final class RoadEdgeTest {
    private static final Desk DESK = new Desk("RoadEdgeTest");
    private static final int NONE = MondayMaps.NONE;
    private static final int MAX = Integer.MAX_VALUE;

    public static void main(String[] args) {
        hours();
        waiting();
        horizon();
        farthest();
        wayLeast();
        wayBegun();
        wayStill();
        wayLong();
        cheapest();
        wrongOn();
        errands();
        ways();
        waysLeast();
        clash();
        clashOverBridges();
        sights();
        lookNext();
        builtHours();
        builtOpen();
        builtUndone();
        builtFirst();
        DESK.close();
    }

    private static void hours() {
        DESK.sentence("SOONEST from a CORNER at an hour (0 to 99999) to another one");
        MondayMaps m = Desk.at("corners 2;street 0 1 2 >>>>>>>");
        DESK.due("at 0", m.soonest(0, 1, 0), 2);
        DESK.due("at 99999", m.soonest(0, 1, 99999), 100001);
        DESK.due("at 100000", m.soonest(0, 1, 100000), NONE);
        DESK.due("at -1", m.soonest(0, 1, -1), NONE);
        DESK.due("at the last int", m.soonest(0, 1, MAX), NONE);
        DESK.due("the way at 0", m.way(0, 1, 0, 0), 0);
        DESK.due("the way at 99999", m.way(0, 1, 99999, 0), 0);
        DESK.due("the way at 100000", m.way(0, 1, 100000, 0), NONE);
        DESK.due("the way at -1", m.way(0, 1, -1, 0), NONE);
        DESK.due("the other way", m.soonest(1, 0, 99999), -2);
    }

    private static void waiting() {
        DESK.sentence("the first hour at which one can be there (waiting anywhere as one likes)");
        MondayMaps m = Desk.at("corners 3;street 0 1 1 =......;street 1 2 1 ..=....");
        DESK.due("waits at the middle CORNER", m.soonest(0, 2, 0), 49);
        DESK.due("at the last hour of Monday", m.soonest(0, 2, 23), 49);
        DESK.due("waits at the first CORNER, then at the next one", m.soonest(0, 2, 24), 168 + 49);
        MondayMaps n = Desk.at("corners 3;street 0 1 1 =======;street 0 2 9 =======;street 2 1 9 =======;saint 0 5;lift 0 9 20");
        DESK.due("waits for the LIFT", n.soonest(0, 1, 9), 21);
        DESK.due("or goes round about", n.soonest(0, 1, 0), 1);
        DESK.due("on the SAINT's DATE", n.soonest(0, 1, 5 * 24 + 3), 6 * 24 + 1);
        DESK.due("to his CORNER", n.soonest(2, 0, 4 * 24 + 23), 5 * 24 + 8);
        MondayMaps year = Desk.at("corners 2;street 0 1 3 =======;saint 0 359;saint 1 0");
        DESK.due("over the turn of the DATES", year.soonest(0, 1, 359 * 24), 361 * 24 + 3);
        DESK.due("the hour before", year.soonest(0, 1, 359 * 24 - 1), 359 * 24 + 2);
    }

    /** A town in which one can be at 6 at hour 2065 and not sooner: see Desk. */
    private static void horizon() {
        DESK.sentence("within 2000 HOURS");
        MondayMaps m = Desk.at(Desk.lateTown());
        DESK.due("2000", m.soonest(0, 6, 65), 2065);
        DESK.due("2001", m.soonest(0, 6, 64), -2);
        DESK.due("2001, one CORNER less", m.soonest(0, 5, 64), 1921);
        DESK.due("the last STREET at 2000", m.way(0, 6, 65, 5), 5);
        DESK.due("no STREET at 2001", m.way(0, 6, 64, 0), -2);
    }

    private static void farthest() {
        DESK.sentence("how soon one can really be somewhere");
        StringBuilder s = new StringBuilder("corners 10;street 0 2 9.......;street 0 3 9.......;street 0 4 9.......");
        for (int i = 8; i >= 0; i--) {
            s.append(";street " + i + " " + (i + 1) + " 9 >>>>>>>");
        }
        MondayMaps m = Desk.at(s.toString());
        DESK.due("by nine STREETS", m.soonest(0, 9, 7), 88);
        DESK.due("not back", m.soonest(9, 0, 7), -2);
        for (int k = 0; k < 9; k++) {
            DESK.due("street " + k + " of the way", m.way(0, 9, 7, k), 11 - k);
        }
        DESK.due("it has nine", m.way(0, 9, 7, 9), -2);
    }

    private static void wayLeast() {
        DESK.sentence("that which takes at each CORNER the least STREET");
        MondayMaps m = Desk.at("corners 4;street 2 3 4 =======;street 1 3 5 =======;street 0 1 1 =======;"
            + "street 0 2 2 =======;street 0 3 6 =======;street 0 3 6 =======");
        DESK.due("soonest", m.soonest(0, 3, 0), 6);
        DESK.due("of 2, 3, 4 and 5 the least", m.way(0, 3, 0, 0), 2);
        DESK.due("then the only one", m.way(0, 3, 0, 1), 1);
        DESK.due("no more", m.way(0, 3, 0, 2), -2);
        DESK.due("back: of 0, 1, 4 and 5 the least", m.way(3, 0, 0, 0), 0);
        DESK.due("then", m.way(3, 0, 0, 1), 3);
    }

    private static void wayBegun() {
        DESK.sentence("begun as soon as it is OPEN");
        // Street 0 is down from five on, street 1 at once: both are there at eight.
        MondayMaps m = Desk.at("corners 2;street 0 1 3 =======;street 0 1 8 =======;lift 0 0 5");
        DESK.due("both", m.soonest(0, 1, 0), 8);
        DESK.due("the least is waited for", m.way(0, 1, 0, 0), 0);
        MondayMaps n = Desk.at("corners 2;street 0 1 3 =======;street 0 1 7 =======;lift 0 0 5");
        DESK.due("the other one is sooner", n.soonest(0, 1, 0), 7);
        DESK.due("so it is that", n.way(0, 1, 0, 0), 1);
    }

    /** A saint and a shut day keep those who are aside too late from coming back. */
    private static void wayStill() {
        DESK.sentence("by which one can still be there then");
        MondayMaps m = Desk.at("corners 3;street 0 1 1 ===.===;street 0 2 1 ...=...;saint 1 2;lift 1 0 5");
        DESK.due("on Thursday at five", m.soonest(0, 2, 0), 78);
        DESK.due("to and fro till midnight", m.way(0, 2, 0, 47), 0);
        DESK.due("48 times", m.way(0, 2, 0, 48), 1);
        DESK.due("no more", m.way(0, 2, 0, 49), -2);
        DESK.due("from 1 on", m.way(0, 2, 1, 45), 0);
        DESK.due("46 times: from 47 on he could not be back", m.way(0, 2, 1, 46), 1);
        // Street 0 is begun at midnight alone: at 0, back at 24; at 48 he could not be back, for Thursday is shut.
        MondayMaps night = Desk.at("corners 3;street 0 1 1 ===.===;street 0 2 1 ...=...;lift 0 1 24;lift 1 0 5");
        DESK.due("on Thursday at five", night.soonest(0, 2, 0), 78);
        int[] byNight = {0, 0, 1, -2};
        for (int k = 0; k < 4; k++) {
            DESK.due("at midnight " + k, night.way(0, 2, 0, k), byNight[k]);
        }
        MondayMaps n = Desk.at("corners 3;street 0 1 2 =======;street 1 2 3 =======;street 0 2 4 =======");
        DESK.due("not by 0 and 1", n.soonest(0, 2, 0), 4);
        DESK.due("but by 2", n.way(0, 2, 0, 0), 2);
        DESK.due("no more", n.way(0, 2, 0, 1), -2);
        // From 2 one must leave by three, if straight, but by eight, if by 3: who is at 1 at four is in time.
        MondayMaps late = Desk.at("corners 5;street 0 1 4 >>>>>>>;street 0 3 1 >>>>>>>;street 1 2 1 >>>>>>>;"
            + "street 2 3 1 >>>>>>>;street 3 4 1 >>>>>>>;street 2 4 7 >>>>>>>;lift 4 0 9");
        DESK.due("by the street that is down till nine", late.soonest(0, 4, 0), 10);
        int[] inTime = {0, 2, 3, 4, -2};
        for (int k = 0; k < 5; k++) {
            DESK.due("in time " + k, late.way(0, 4, 0, k), inTime[k]);
        }
    }

    private static void wayLong() {
        DESK.sentence("The WAY, its k-th STREET; -2: not so, or it has not so many");
        // The street to 8 opens with the second of its eight Mondays' saints gone by: to and fro till then.
        StringBuilder s = new StringBuilder("corners 3;street 0 1 1 =======;street 0 2 1 =......");
        for (int i = 0; i < 8; i++) {
            s.append(";saint 2 " + 7 * i);
        }
        MondayMaps m = Desk.at(s.toString());
        DESK.due("on the ninth Monday", m.soonest(0, 2, 0), 1345);
        DESK.due("street 1343", m.way(0, 2, 0, 1343), 0);
        DESK.due("street 1344", m.way(0, 2, 0, 1344), 1);
        DESK.due("street 1345", m.way(0, 2, 0, 1345), -2);
        DESK.due("street 2001", m.way(0, 2, 0, 2001), -2);
        DESK.due("the last int", m.way(0, 2, 0, MAX), -2);
        DESK.due("below 0", m.way(0, 2, 0, -1), NONE);
        DESK.due("not so", m.way(2, 1, 1345, 0), 1);
        MondayMaps n = Desk.at("corners 2;street 0 1 1 >>>>>>>");
        DESK.due("not so", n.way(1, 0, 0, 0), -2);
        DESK.due("not so, below 0", n.way(1, 0, 0, -1), NONE);
    }

    private static void cheapest() {
        DESK.sentence("of each STREET the SIGN that is true on most weekdays, of several the first of . > < =");
        String[] signs = {".>.>.>=", ".<.<.<>", "=.=.=.<", "><><><=", "=>=>=>.", "=<=<=<>", "=====>>", "<<<<>>>", ".><=.><",
            "=<>=<>.", "=======", "......."};
        int[] want = {0, 0, 0, 1, 1, 2, 3, 2, 0, 1, 3, 0};
        StringBuilder s = new StringBuilder("corners 2");
        for (String t : signs) {
            s.append(";street0 1 1" + t);
        }
        MondayMaps m = Desk.at(s.toString());
        for (int i = 0; i < signs.length; i++) {
            DESK.due(signs[i], m.cheap(i), want[i]);
        }
        DESK.due("a street 12", m.cheap(12), NONE);
    }

    private static void wrongOn() {
        DESK.sentence("on how many (STREETS, weekdays) this one MAP is wrong; of a weekday, how many");
        MondayMaps m = Desk.at("corners 2;street 0 1 1 =====>>;street 0 1 1 .><=.><;street 0 1 1 <<<<<<<");
        int[] want = {0, 1, 1, 1, 0, 2, 2, 7};
        for (int day = 0; day <= 7; day++) {
            DESK.due("day " + day, m.wrong(day), want[day]);
        }
        StringBuilder s = new StringBuilder("corners 2");
        for (int i = 0; i < 12; i++) {
            s.append(";street0 1 1=<>=<>.");
        }
        MondayMaps most = Desk.at(s.toString());
        DESK.due("twelve times five", most.wrong(7), 60);
        DESK.due("on a Monday", most.wrong(0), 12);
        DESK.due("on a Wednesday", most.wrong(2), 0);
        DESK.due("on a Sunday", most.wrong(6), 12);
    }

    private static void errands() {
        DESK.sentence("ERRANDS 0 to 5, told: from a CORNER to another one");
        MondayMaps m = Desk.at("corners 3;street 0 1 1 =======;street 1 2 1 =......");
        for (int i = 1; i <= 5; i++) {
            DESK.due("errand", m.errand(0, 1), i);
        }
        DESK.due("on Tuesdays too", m.ways(1, 1), 0);
        DESK.due("the sixth", m.errand(0, 2), 6);
        DESK.due("is told: on Tuesdays not", m.ways(1, 1), 32);
        DESK.due("a seventh", m.errand(0, 1), -2);
        DESK.due("to itself", m.errand(1, 1), -2);
        DESK.due("six", m.count(7), 6);
    }

    private static void ways() {
        DESK.sentence("WAYS on a weekday: all STREETS that are not shut on it be one way each (bits: of the k-th of these 1, if back)");
        MondayMaps m = Desk.at("corners 4;street 0 1 1 =..<.==;street 1 2 1 =>.<.==;street 2 3 1 =<><>==");
        m.errand(3, 2);
        int[] want = {4, 2, 1, 4, 1, 4, 4};
        for (int day = 0; day < 7; day++) {
            DESK.due("on weekday " + day, m.ways(day, 0), want[day]);
            DESK.due("no CLASH", m.ways(day, 1), 0);
        }
        DESK.sentence("(HOURS, SAINTS, LIFTS not asked)");
        MondayMaps n = Desk.at("corners 2;street 0 1 9 =======;saint 0 0;lift 0 0 24");
        n.errand(1, 0);
        DESK.due("it can be done", n.ways(0, 0), 1);
        MondayMaps all = Desk.at("corners 3" + ";street0 1 1=======".repeat(11) + ";street1 2 1=======");
        all.errand(2, 1);
        DESK.due("the twelfth back", all.ways(0, 0), 2048);
        all.errand(1, 0);
        DESK.due("and one of the others", all.ways(0, 0), 2049);
        all.errand(0, 1);
        DESK.due("there and back", all.ways(0, 0), 2049);
    }

    private static void waysLeast() {
        DESK.sentence("the least such");
        MondayMaps m = Desk.at("corners 4;street 0 1 1 =======;street 2 1 1 =======;street 2 3 1 =======;street 0 3 1 =======");
        DESK.due("no ERRANDS", m.ways(0, 0), 0);
        m.errand(0, 2);
        DESK.due("by 0 and 1 back: 2; by 3 and 2 back: 4", m.ways(0, 0), 2);
        m.errand(1, 3);
        DESK.due("by 1 back and 2", m.ways(0, 0), 2);
        m.errand(2, 0);
        DESK.due("round: 0 and 2 back, or 1 and 3 back", m.ways(0, 0), 5);
        m.errand(3, 1);
        DESK.due("round", m.ways(0, 0), 5);
        m.errand(NONE, 0);
        m.errand(1, 0);
        m.errand(1, 2);
        DESK.due("0 and 1 back", m.ways(0, 0), 3);
        m.errand(NONE, 0);
        m.errand(1, 0);
        DESK.due("0 back", m.ways(0, 0), 1);
        m.errand(0, 1);
        DESK.due("round again", m.ways(0, 0), 5);
    }

    private static void clash() {
        DESK.sentence("CLASH, if there is none: the fewest ERRANDS that can't be done together by any");
        MondayMaps m = Desk.at("corners 4;street 0 1 1 =======;street 1 2 1 =======");
        m.errand(0, 1);
        DESK.due("one can be done", m.ways(0, 1), 0);
        m.errand(1, 0);
        DESK.due("two can't", m.ways(0, 1), 3);
        DESK.due("no bits", m.ways(0, 0), -2);
        m.errand(0, 3);
        DESK.due("one alone can't: fewer, though more as bits", m.ways(0, 1), 4);
        m.errand(3, 0);
        DESK.due("of two of one the least", m.ways(0, 1), 4);
        DESK.sentence("of several sets the least as bits");
        pairs("over street 0, then street 1", 3, 0, 2, 2, 1, 1, 0);
        pairs("over street 1, then street 0", 5, 2, 1, 1, 0, 0, 2);
        pairs("over both", 3, 0, 2, 2, 0, 1, 0);
        pairs("the last two", 6, 1, 0, 2, 1, 1, 2);
        MondayMaps n = Desk.at("corners 2;street 0 1 1 =======");
        for (int i = 0; i < 5; i++) {
            n.errand(0, 1);
        }
        n.errand(1, 0);
        DESK.due("the sixth with the first", n.ways(0, 1), 33);
        MondayMaps none = Desk.at("corners 2");
        none.errand(0, 1);
        none.errand(1, 0);
        DESK.due("no STREETS: the first alone", none.ways(0, 1), 1);
        DESK.due("no bits", none.ways(0, 0), -2);
        MondayMaps shut = Desk.at("corners 2;street 0 1 1 =.=====");
        shut.errand(0, 1);
        DESK.due("shut", shut.ways(1, 1), 1);
        DESK.due("shut", shut.ways(1, 0), -2);
    }

    /** Three errands in a row of three corners. */
    private static void pairs(String what, int want, int... corners) {
        MondayMaps m = Desk.at("corners 3;street 0 1 1 =======;street 1 2 1 =======");
        for (int i = 0; i < 6; i += 2) {
            m.errand(corners[i], corners[i + 1]);
        }
        DESK.due(what, m.ways(0, 1), want);
    }

    /** Two rings of three corners, joined by the bridge that is street 3. */
    private static void clashOverBridges() {
        DESK.sentence("ERRANDS that can't be done together");
        String rings = "corners 6;street 0 1 1 =======;street 1 2 1 =======;street 2 0 1 =======;street 2 5 1 =======;"
            + "street 3 4 1 =======;street 4 5 1 =======;street 5 3 1 =======";
        MondayMaps m = Desk.at(rings);
        m.errand(0, 1);
        m.errand(1, 0);
        m.errand(3, 4);
        m.errand(4, 3);
        DESK.due("within the rings none", m.ways(0, 1), 0);
        DESK.due("all forward", m.ways(0, 0), 0);
        m.errand(0, 4);
        DESK.due("over the bridge", m.ways(0, 1), 0);
        DESK.due("forward", m.ways(0, 0), 0);
        m.errand(3, 1);
        DESK.due("and back", m.ways(0, 1), 48);
        m.errand(NONE, 0);
        m.errand(4, 1);
        DESK.due("back alone", m.ways(0, 0), 8);
        m.errand(1, 2);
        m.errand(2, 1);
        m.errand(3, 5);
        DESK.due("with the rings", m.ways(0, 0), 8);
        m.errand(2, 5);
        DESK.due("the first and the fifth", m.ways(0, 1), 17);
        MondayMaps apart = Desk.at("corners 6;street 0 1 1 =======;street 2 3 1 =======;street 5 4 1 =======");
        for (int corner = 4; corner >= 0; corner -= 2) {
            apart.errand(NONE, 0);
            apart.errand(corner, corner + 1);
            apart.errand(corner + 1, corner);
            DESK.due("there and back, apart from others", apart.ways(0, 1), 3);
        }
    }

    private static void sights() {
        DESK.sentence("SIGHTS 0 to 11, told: on a STREET a SIGN was seen. WEEKDAYS that fit all");
        MondayMaps m = Desk.at("corners 2;street 0 1 1 .><=.><;street 0 1 1 >>>>===");
        DESK.due("none told", m.weekdays(0), 127);
        for (int i = 1; i <= 11; i++) {
            DESK.due("a sight", m.sight(1, 1), i);
        }
        DESK.due("Monday to Thursday", m.weekdays(0), 15);
        DESK.due("the twelfth", m.sight(0, 3), 12);
        DESK.due("Thursday", m.weekdays(0), 8);
        DESK.due("a 13th", m.sight(0, 0), -2);
        DESK.due("Thursday", m.weekdays(0), 8);
        m.sight(NONE, 0);
        DESK.due("none told", m.weekdays(0), 127);
        int[] days = {17, 34, 68, 8};
        for (int sign = 0; sign < 4; sign++) {
            m.sight(NONE, 0);
            m.sight(0, sign);
            DESK.due("seen " + sign, m.weekdays(0), days[sign]);
        }
        m.sight(0, 0);
        DESK.due("two SIGNS on one STREET", m.weekdays(0), 0);
        DESK.due("none fits", m.weekdays(1), -2);
    }

    private static void lookNext() {
        DESK.sentence("the STREET to look at next: by which, of these weekdays, the most with one SIGN are fewest, of several the least");
        DESK.due("one that tells nothing", Desk.at("corners 2;street 0 1 1 =======").weekdays(1), 0);
        DESK.due("shut on most days", Desk.at("corners 2;street 0 1 1 .......;street 0 1 1 ......=").weekdays(1), 1);
        DESK.due("4 of one, 4 of one", Desk.at("corners 2;street 0 1 1 ....===;street 0 1 1 =>>>>..").weekdays(1), 0);
        DESK.due("4 of one, 3 of one", Desk.at("corners 2;street 0 1 1 ....===;street 0 1 1 <>>>..<").weekdays(1), 1);
        DESK.due("3 of one, 2 of one", Desk.at("corners 2;street 0 1 1 =><=><=;street 0 1 1 =><=><.").weekdays(1), 1);
        DESK.due("the last of twelve", Desk.at("corners 2" + ";street0 1 1=======".repeat(11) + ";street0 1 1======>").weekdays(1), 11);
        MondayMaps m = Desk.at("corners 2;street 0 1 1 ===><.=;street 0 1 1 .....=>");
        DESK.due("of all days", m.weekdays(1), 0);
        m.sight(0, 3);
        DESK.due("Monday to Wednesday, Sunday", m.weekdays(0), 71);
        DESK.due("of these: 4 and 3", m.weekdays(1), 1);
        m.sight(1, 0);
        DESK.due("Monday to Wednesday", m.weekdays(0), 7);
        DESK.due("3 and 3", m.weekdays(1), 0);
        DESK.due("there is no STREET", Desk.at("corners 2").weekdays(1), -2);
        DESK.due("all fit", Desk.at("corners 2").weekdays(0), 127);
    }

    private static void builtHours() {
        DESK.sentence("of so many HOURS (1 to 9)");
        MondayMaps m = Desk.at("corners 3;street 0 1 9 =======");
        m.errand(0, 1);
        for (int h = 1; h <= 9; h++) {
            DESK.due("of " + h, m.built(h, 0, 2), h);
            DESK.due("one", m.built(h, 0, 0), 0);
            DESK.due("other", m.built(h, 0, 1), 1);
        }
        DESK.due("of 0", m.built(0, 0, 2), NONE);
        DESK.due("of 10", m.built(10, 0, 2), NONE);
        DESK.due("at 99999", m.built(4, 99999, 2), 4);
        DESK.due("at 100000", m.built(4, 100000, 2), NONE);
        DESK.due("at -1", m.built(4, -1, 2), NONE);
        DESK.due("beside twelve", twelveStreets().built(3, 0, 2), 3);
    }

    private static MondayMaps twelveStreets() {
        MondayMaps m = Desk.at("corners 2" + ";street0 1 9=======".repeat(12));
        m.errand(1, 0);
        return m;
    }

    private static void builtOpen() {
        DESK.sentence("(open both ways, on all days, never LIFTED, but SAINTS)");
        MondayMaps m = Desk.at("corners 3;saint 0 3;saint 2 8;street 0 1 1 =======;lift 0 0 24");
        m.errand(0, 1);
        m.errand(1, 0);
        for (int day = 0; day < 7; day++) {
            int want = day == 3 ? 2 * (24 - day) + 4 : 4;
            DESK.due("on day " + day, m.built(2, 24 * day + day, 2), want);
        }
        DESK.due("another's SAINT", m.built(2, 24 * 8, 2), 4);
        DESK.due("a year later", m.built(2, 363 * 24, 2), 2 * 24 + 4);
        m.errand(NONE, 0);
        DESK.due("no ERRANDS: no HOURS", m.built(2, 0, 2), 0);
        DESK.due("the first two", m.built(2, 0, 0), 0);
        DESK.due("the first two", m.built(2, 0, 1), 1);
    }

    private static void builtUndone() {
        DESK.sentence("(2001 for one that can't be done)");
        MondayMaps none = Desk.at("corners 10");
        for (int i = 0; i < 6; i++) {
            none.errand(i, i + 4);
        }
        DESK.due("one of six", none.built(1, 0, 2), 1 + 5 * 2001);
        DESK.due("the first", none.built(1, 0, 0), 0);
        DESK.due("to its goal", none.built(1, 0, 1), 4);
        // At 65 one can be at 6 in 2000 hours: so the street is built for the other errand. At 64 both are alike.
        MondayMaps m = Desk.at(Desk.lateTown());
        m.errand(7, 8);
        m.errand(0, 6);
        DESK.due("2000 and 1", m.built(1, 65, 2), 2001);
        DESK.due("for 7", m.built(1, 65, 0), 7);
        DESK.due("for 8", m.built(1, 65, 1), 8);
        DESK.due("2001 and 1", m.built(1, 64, 2), 2002);
        DESK.due("the first", m.built(1, 64, 0), 0);
        DESK.due("the first", m.built(1, 64, 1), 6);
        MondayMaps year = Desk.at("corners 3;street 0 1 1 .......;saint 2 0");
        year.errand(0, 2);
        year.errand(1, 2);
        DESK.due("one can't, the other waits for the SAINT", year.built(5, 0, 2), 24 + 5 + 2001);
    }

    private static void builtFirst() {
        DESK.sentence("of several the first (the lesser CORNER, then the other one)");
        MondayMaps m = Desk.at("corners 5;street 0 1 1 =======;street 2 3 1 =======");
        m.errand(1, 3);
        m.errand(0, 2);
        // 0-2: 1+2+1 and 2; 0-3: 1+2 and 2+1; 1-2: 2+1 and 1+2; 1-3: 2 and 1+2+1: six each.
        DESK.due("six", m.built(2, 0, 2), 6);
        DESK.due("the lesser", m.built(2, 0, 0), 0);
        DESK.due("the other", m.built(2, 0, 1), 2);
        MondayMaps n = Desk.at("corners 5;street 0 1 1 =======;street 2 3 1 =======");
        n.errand(4, 3);
        DESK.due("the goal is the lesser", n.built(9, 5, 0), 3);
        DESK.due("the other", n.built(9, 5, 1), 4);
        DESK.due("nine", n.built(9, 5, 2), 9);
        DESK.due("nothing is built", n.soonest(4, 3, 5), -2);
        DESK.due("nothing is built", n.count(1), 2);
    }
}
