/** Each promise of the document by calls made by hand: ordinary inputs, edges, wrong inputs. */
public final class PromiseTest {
    private static final Desk DESK = new Desk("PromiseTest");
    private static final int NONE = MondayMaps.NONE;
    private static final int MAX = Integer.MAX_VALUE;
    private static final int MIN = Integer.MIN_VALUE;

    /** Corner 1 has a saint on the date 3; street 1 is lifted till six in the morning. */
    private static final String TOWN = "corners 4;street 0 1 2 >>>>>.=;street 1 2 3 =======;street 0 2 9 <======;"
        + "street 2 3 1 .><=.><;saint 1 3;lift 1 0 6";

    public static void main(String[] args) {
        p1NewObject();
        p2Feed();
        p3End();
        p4Town();
        p5Rule();
        p6Street();
        p7Open();
        p8Print();
        p9Misprint();
        p10Shown();
        p11By();
        p12Walker();
        p13About();
        p14Step();
        p14Rules();
        p14Words();
        p14Sums();
        p14Asking();
        p15Soonest();
        p15Horizon();
        p16Way();
        p17Comes();
        p18Round();
        p19Questions();
        p20Cheap();
        p21Wrong();
        p22Errand();
        p23Ways();
        p24Sight();
        p25Weekdays();
        p26Came();
        p27Had();
        p28Built();
        p29Seed();
        p30Strangers();
        p31Count();
        p32Image();
        p33Back();
        DESK.close();
    }

    private static void due(String what, int got, int want) {
        DESK.due(what, got, want);
    }

    private static void p1NewObject() {
        MondayMaps m = new MondayMaps();
        for (int i = 0; i < 12; i++) {
            due("p1 count " + i, m.count(i), 0);
        }
        due("p1 NONE", MondayMaps.NONE, -1);
        due("p1 street", m.street(0, 0), NONE);
        due("p1 print", m.print(0), -2);
        due("p1 wrong", m.wrong(0), NONE);
        due("p1 weekdays", m.weekdays(0), NONE);
        due("p1 built", m.built(1, 0, 0), NONE);
        due("p1 ways", m.ways(0, 0), NONE);
        due("p1 soonest", m.soonest(0, 0, 0), NONE);
        due("p1 strangers", m.strangers(NONE, 1, 1, 0), NONE);
        due("p1 walker", m.walker(0, 1, 0, NONE, 0), -2);
        due("p1 back", m.back(0), NONE);
        due("p1 errand", m.errand(0, 1), -2);
        due("p1 no errands", m.errand(NONE, 5), 0);
        due("p1 sight", m.sight(0, 1), -2);
        due("p1 came", m.came(0), -2);
    }

    private static void p2Feed() {
        MondayMaps m = new MondayMaps();
        for (int i = 1; i <= 20; i++) {
            due("p2 feed", m.feed(MIN, -1, 0, 1, MAX), 20 * i);
        }
        due("p2 full", m.feed(0, 0, 0, 0, 0), NONE);
        due("p2 none came", m.count(11), 400);
        m.end(381);
        due("p2 no room for 20", m.feed(0, 0, 0, 0, 0), NONE);
        m.end(380);
        due("p2 room for 20", m.feed(0, 0, 0, 0, 0), 400);
        MondayMaps n = new MondayMaps();
        n.feed(0x636f726e, 0x65727320, 0x373b7374, 0x72656574, 0x20362035);
        n.feed(0x20382e2e, 0x2e2e2e2e, 0x2e000000, 0, 0);
        n.end(29);
        due("p2 the highest byte first", n.town(), 1);
        due("p2 what was fed", n.count(0), 7);
        due("p2 what was fed", n.street(0, 2), 8);
    }

    private static void p3End() {
        MondayMaps m = new MondayMaps();
        due("p3 empty", m.end(0), 0);
        due("p3 not so many", m.end(1), NONE);
        m.feed(0, 0, 0, 0, 0);
        due("p3 21", m.end(21), NONE);
        due("p3 below 0", m.end(-1), NONE);
        due("p3 below 0", m.end(MIN), NONE);
        due("p3 nothing happened", m.count(11), 20);
        due("p3 20", m.end(20), 20);
        due("p3 7", m.end(7), 7);
        due("p3 has 7", m.count(11), 7);
        due("p3 8", m.end(8), NONE);
        due("p3 feed goes on behind", m.feed(0, 0, 0, 0, 0), 27);
    }

    private static void p4Town() {
        MondayMaps m = new MondayMaps();
        due("p4 town", Desk.town(m, TOWN), 4);
        due("p4 tape is empty", m.count(11), 0);
        m.print(0);
        m.walker(0, 1, 0, NONE, 5);
        m.errand(0, 1);
        m.sight(0, 1);
        m.came(1);
        m.seed(77);
        due("p4 fault", Desk.town(m, "corners 1"), Desk.fault(8, 1));
        int[] stay = {4, 4, 1, 1, 0, 1, 1, 1, 1, 1, 77, 0};
        for (int i = 0; i < 12; i++) {
            due("p4 all stays " + i, m.count(i), stay[i]);
        }
        due("p4 all stays", m.street(2, 2), 9);
        due("p4 another town", Desk.town(m, "corners 2;street 1 0 5 .><=.><;saint 0 2"), 1);
        int[] gone = {2, 1, 1, 0, 0, 0, 0, 0, 0, 0, 77, 0};
        for (int i = 0; i < 12; i++) {
            due("p4 another town " + i, m.count(i), gone[i]);
        }
        due("p4 empty tape", m.town(), Desk.fault(0, 0));
        due("p4 no lift is left", m.open(0, 1, 24), 1);
    }

    private static void p5Rule() {
        MondayMaps m = new MondayMaps();
        due("p5 first", Desk.rule(m, "go"), 0);
        due("p5 tape is empty", m.count(11), 0);
        due("p5 fault", Desk.rule(m, "go if"), Desk.fault(5, 0));
        due("p5 tape is empty", m.count(11), 0);
        due("p5 second", Desk.rule(m, "wait"), 1);
        due("p5 a town leaves them", Desk.town(m, TOWN), 4);
        for (int i = 2; i < 6; i++) {
            due("p5 next", Desk.rule(m, "ask;go if shut=0"), i);
        }
        Desk.say(m, "go if");
        due("p5 there are 6", m.rule(), NONE);
        due("p5 nothing happened", m.count(11), 5);
        due("p5 six", m.count(4), 6);
    }

    private static void p6Street() {
        MondayMaps m = Desk.at(TOWN);
        int[][] want = {{0, 1, 2, 1, 1, 1, 1, 1, 0, 3}, {1, 2, 3, 3, 3, 3, 3, 3, 3, 3},
            {0, 2, 9, 2, 3, 3, 3, 3, 3, 3}, {2, 3, 1, 0, 1, 2, 3, 0, 1, 2}};
        for (int s = 0; s < 4; s++) {
            for (int what = 0; what < 10; what++) {
                due("p6 street " + s + " " + what, m.street(s, what), want[s][what]);
            }
        }
        due("p6 no street", m.street(4, 0), NONE);
        due("p6 no street", m.street(-1, 0), NONE);
        due("p6 no street", m.street(MIN, 0), NONE);
        due("p6 no such", m.street(0, 10), NONE);
        due("p6 no such", m.street(0, -1), NONE);
    }

    private static void p7Open() {
        MondayMaps m = Desk.at(TOWN);
        due("p7 >", m.open(0, 0, 0), 1);
        due("p7 > from there", m.open(0, 1, 0), 0);
        due("p7 <", m.open(2, 0, 0), 0);
        due("p7 < from there", m.open(2, 2, 23), 1);
        due("p7 = on Tuesday", m.open(2, 0, 24), 1);
        due("p7 shut", m.open(0, 0, 24 * 5), 0);
        due("p7 both", m.open(0, 1, 24 * 6), 1);
        due("p7 day before the saint's", m.open(0, 0, 71), 1);
        due("p7 saint", m.open(0, 0, 72), 0);
        due("p7 saint at the other corner", m.open(1, 2, 72 + 10), 0);
        due("p7 saint, last hour", m.open(0, 0, 95), 0);
        due("p7 day behind", m.open(0, 0, 96), 1);
        due("p7 no saint there", m.open(2, 0, 72), 1);
        due("p7 saint a year later", m.open(1, 1, 363 * 24 + 7), 0);
        due("p7 day behind", m.open(1, 1, 364 * 24 + 7), 1);
        due("p7 lifted", m.open(1, 1, 0), 0);
        due("p7 lifted", m.open(1, 2, 5), 0);
        due("p7 down again", m.open(1, 2, 6), 1);
        due("p7 lifted each day", m.open(1, 1, 24 + 5), 0);
        due("p7 no corner of it", m.open(0, 2, 0), NONE);
        due("p7 no corner", m.open(0, -1, 0), NONE);
        due("p7 no street", m.open(4, 0, 0), NONE);
        due("p7 no street", m.open(-1, 0, 0), NONE);
        due("p7 no hour", m.open(0, 0, -1), NONE);
        due("p7 a late hour", m.open(2, 0, MAX), 1);
    }

    private static void p8Print() {
        MondayMaps m = Desk.at(TOWN);
        due("p8 no day", m.print(7), -2);
        due("p8 no day", m.print(-1), -2);
        due("p8 first", m.print(0), 0);
        due("p8 Sunday", m.print(6), 1);
        due("p8 sign", m.shown(0, 0), 1);
        due("p8 sign", m.shown(1, 0), 3);
        due("p8 sign", m.shown(1, 3), 2);
        due("p8 third", m.print(6), 2);
        due("p8 fourth", m.print(3), 3);
        due("p8 there are 4", m.print(3), -2);
        due("p8 there are 4", m.count(5), 4);
        due("p8 no streets", Desk.at("corners 2").print(4), 0);
    }

    private static void p9Misprint() {
        MondayMaps m = Desk.at(TOWN);
        m.print(0);
        m.print(0);
        due("p9 was", m.misprint(0, 2, 0), 2);
        due("p9 was", m.misprint(0, 2, 3), 0);
        due("p9 is", m.shown(0, 2), 3);
        due("p9 the other map", m.shown(1, 2), 2);
        due("p9 the town", m.street(2, 3), 2);
        due("p9 no map", m.misprint(2, 0, 0), NONE);
        due("p9 no map", m.misprint(-1, 0, 0), NONE);
        due("p9 no street", m.misprint(0, 4, 0), NONE);
        due("p9 no street", m.misprint(0, -1, 0), NONE);
        due("p9 no sign", m.misprint(0, 0, 4), NONE);
        due("p9 no sign", m.misprint(0, 0, -1), NONE);
        due("p9 nothing happened", m.shown(0, 0), 1);
        due("p9 a new print has none", m.print(0), 2);
        due("p9 a new print has none", m.shown(2, 2), 2);
    }

    private static void p10Shown() {
        MondayMaps m = Desk.at(TOWN);
        m.print(1);
        int[] want = {1, 3, 3, 1};
        for (int s = 0; s < 4; s++) {
            due("p10 shown " + s, m.shown(0, s), want[s]);
        }
        due("p10 no street", m.shown(0, 4), NONE);
        due("p10 no street", m.shown(0, -1), NONE);
        due("p10 no map", m.shown(1, 0), NONE);
        due("p10 no map", m.shown(-1, 0), NONE);
    }

    private static void p11By() {
        MondayMaps m = Desk.at(TOWN);
        m.print(0);
        due("p11 hours", m.by(0, 0, 2, 0), 5);
        due("p11 street", m.by(0, 0, 2, 1), 0);
        due("p11 hours back", m.by(0, 2, 0, 0), 9);
        due("p11 street back", m.by(0, 2, 0, 1), 2);
        due("p11 round about", m.by(0, 1, 0, 0), 12);
        due("p11 round about", m.by(0, 1, 0, 1), 1);
        due("p11 no way", m.by(0, 0, 3, 0), -2);
        due("p11 no way", m.by(0, 0, 3, 1), -2);
        due("p11 there", m.by(0, 3, 3, 0), 0);
        due("p11 there", m.by(0, 3, 3, 1), -2);
        m.misprint(0, 3, 1);
        due("p11 misprinted", m.by(0, 0, 3, 0), 6);
        due("p11 not there", m.by(0, 4, 0, 0), NONE);
        due("p11 not there", m.by(0, 0, 4, 0), NONE);
        due("p11 not there", m.by(0, 0, -1, 0), NONE);
        due("p11 not there", m.by(0, -1, 0, 0), NONE);
        due("p11 no map", m.by(1, 0, 0, 0), NONE);
        due("p11 no map", m.by(-1, 0, 0, 0), NONE);
        due("p11 no such", m.by(0, 0, 0, 2), NONE);
        due("p11 no such", m.by(0, 0, 0, -1), NONE);
        MondayMaps n = Desk.at("corners 3;street 0 2 4 =======;street 2 1 2 =======;street 0 1 2 =======");
        n.print(0);
        due("p11 of several the least", n.by(0, 0, 2, 1), 0);
        due("p11 both ways alike", n.by(0, 2, 0, 1), 0);
        due("p11 the only one", n.by(0, 0, 1, 1), 2);
    }

    private static void p12Walker() {
        MondayMaps m = Desk.at(TOWN);
        due("p12 no map", m.walker(0, 1, 0, NONE, 0), -2);
        m.print(0);
        due("p12 no corner", m.walker(4, 1, 0, NONE, 0), -2);
        due("p12 no corner", m.walker(-1, 1, 0, NONE, 0), -2);
        due("p12 no goal", m.walker(0, 4, 0, NONE, 0), -2);
        due("p12 no goal", m.walker(0, -1, 0, NONE, 0), -2);
        due("p12 no map", m.walker(0, 1, 1, NONE, 0), -2);
        due("p12 no map", m.walker(0, 1, -1, NONE, 0), -2);
        due("p12 no rule", m.walker(0, 1, 0, 0, 0), -2);
        due("p12 no rule", m.walker(0, 1, 0, -2, 0), -2);
        due("p12 no hour", m.walker(0, 1, 0, NONE, -1), -2);
        due("p12 none yet", m.count(6), 0);
        due("p12 first", m.walker(0, 1, 0, NONE, 0), 0);
        Desk.rule(m, "go");
        due("p12 by a rule", m.walker(0, 1, 0, 0, 0), 1);
        due("p12 no rule", m.walker(0, 1, 0, 1, 0), -2);
        due("p12 at his goal", m.walker(2, 2, 0, 0, 99999), 2);
        due("p12 fourth", m.walker(3, 1, 0, 0, 0), 3);
        due("p12 there are 4", m.walker(3, 1, 0, 0, 0), -2);
        due("p12 four", m.count(6), 4);
    }

    private static void about(String what, MondayMaps m, int walker, int... want) {
        for (int i = 0; i < want.length; i++) {
            due(what + ", about " + i, m.about(walker, i), want[i]);
        }
    }

    private static void p13About() {
        MondayMaps m = Desk.at(TOWN);
        m.print(0);
        m.print(1);
        Desk.rule(m, "go");
        m.walker(0, 2, 1, 0, 24);
        about("p13 new", m, 0, 0, 2, 1, 0, 24, 0, 0, NONE);
        m.walker(3, 1, 0, NONE, 7);
        about("p13 new", m, 1, 3, 1, 0, NONE, 7, 0, 0, NONE);
        due("p13 step", m.step(0, 1), 1);
        about("p13 stepped", m, 0, 1, 2, 1, 0, 26, 1, 0, 0);
        due("p13 no walker", m.about(2, 0), NONE);
        due("p13 no walker", m.about(-1, 0), NONE);
        due("p13 no such", m.about(0, 8), NONE);
        due("p13 no such", m.about(0, -1), NONE);
    }

    private static void p14Step() {
        MondayMaps m = Desk.at(TOWN);
        m.print(0);
        m.walker(0, 2, 0, NONE, 0);
        due("p14 no walker", m.step(1, 1), NONE);
        due("p14 no walker", m.step(-1, 1), NONE);
        due("p14 no steps", m.step(0, 0), NONE);
        due("p14 no steps", m.step(0, -1), NONE);
        due("p14 too many", m.step(0, 201), NONE);
        about("p14 nothing happened", m, 0, 0, 2, 0, NONE, 0, 0, 0, NONE);
        due("p14 goes", m.step(0, 1), 1);
        due("p14 waits for the bridge", m.step(0, 4), 1);
        about("p14 waited", m, 0, 1, 2, 0, NONE, 6, 5, 0, 0);
        due("p14 till he is there", m.step(0, 200), 2);
        about("p14 there", m, 0, 2, 2, 0, NONE, 9, 6, 0, 1);
        due("p14 at his goal nothing", m.step(0, 3), 2);
        about("p14 there", m, 0, 2, 2, 0, NONE, 9, 6, 0, 1);
        m.walker(0, 3, 0, NONE, 0);
        due("p14 no way by his map", m.step(1, 200), 0);
        about("p14 waited", m, 1, 0, 3, 0, NONE, 200, 200, 0, NONE);
        // The map has street 0 to the other one; on Saturday it is shut, and on the saint's day.
        m.walker(0, 1, 0, NONE, 5 * 24);
        due("p14 shut for a day", m.comes(2, 400, 0), 6 * 24 + 2);
        m.walker(0, 1, 0, NONE, 3 * 24 + 20);
        due("p14 till the saint's day is over", m.comes(3, 400, 0), 4 * 24 + 2);
    }

    private static void p14Rules() {
        MondayMaps m = DESK.with(Desk.ROW, "wait if steps<2;go", "go if 1=2", "aside", "go if steps>0;ask;wait");
        m.walker(0, 2, 0, 0, 10);
        due("p14 waits twice", m.step(0, 2), 0);
        due("p14 then goes", m.step(0, 1), 1);
        due("p14 goes on", m.step(0, 9), 2);
        about("p14 went", m, 0, 2, 2, 0, 0, 14, 4, 0, 1);
        m.walker(0, 2, 0, 1, 10);
        due("p14 no clause holds: he waits", m.step(1, 3), 0);
        about("p14 waited", m, 1, 0, 2, 0, 1, 13, 3, 0, NONE);
        m.walker(1, 2, 0, 2, 10);
        due("p14 aside by the least street", m.step(2, 1), 0);
        due("p14 and again", m.step(2, 1), 1);
        about("p14 aside", m, 2, 1, 2, 0, 2, 12, 2, 0, 0);
        m.walker(0, 1, 0, 3, 10);
        due("p14 asks first", m.step(3, 1), 0);
        about("p14 asked", m, 3, 0, 1, 0, 3, 11, 1, 1, NONE);
        due("p14 then goes", m.step(3, 1), 1);
        MondayMaps n = DESK.with("corners 3;street 0 1 1 >>>>>>>;street 2 1 4 <<<<<<<", "aside;go", "go;aside");
        n.walker(1, 0, 0, 0, 0);
        due("p14 aside may be another way", n.step(0, 1), 2);
        due("p14 no street is open from there", n.step(0, 5), 2);
        about("p14 stuck", n, 0, 2, 0, 0, 0, 9, 6, 0, 1);
    }

    /** A walker at 1, from 0, on his third step, goes on only if the test holds. */
    private static void word(String test, boolean holds) {
        String town = "corners 4;street 0 1 3 =======;street 1 2 5 =======;street 2 3 1 .......;saint 3 359";
        MondayMaps m = DESK.with(town, "go if corner = 0;ask if asked = 0;go if " + test);
        m.walker(0, 2, 0, 0, 24 * 359 + 12);
        m.step(0, 2);
        due("p14 " + test, m.step(0, 1), holds ? 2 : 1);
    }

    private static void p14Words() {
        word("hour = 16", true);
        word("hour = 15", false);
        word("day = 2", true);
        word("date = 359", true);
        word("corner = 1", true);
        word("goal = 2", true);
        word("shut = 0", true);
        word("left = 5", true);
        word("steps = 2", true);
        word("asked = 1", true);
        word("came = 0", true);
        word("came = 99", false);
        word("date=359 and day=2 and hour=16 and steps=2 and left=5", true);
        MondayMaps m = DESK.with(TOWN, "aside if came=99 and left=0 and shut=1", "aside if shut=0", "aside if shut=1");
        m.walker(0, 3, 0, 0, 0);
        due("p14 no way: left 0, shut 1, came 99", m.step(0, 1), 1);
        due("p14 came is 0 now", m.step(0, 1), 1);
        m.walker(1, 2, 0, 1, 5);
        due("p14 lifted is shut", m.step(1, 1), 1);
        due("p14 not shut now", m.step(1, 1), 2);
        m.walker(2, 0, 0, 2, 0);
        due("p14 by the map, which is true", m.step(2, 1), 2);
    }

    private static void sum(String test, boolean holds) {
        MondayMaps m = DESK.with(Desk.ROW, "go if " + test);
        m.walker(0, 1, 0, 0, 5);
        due("p14 " + test, m.step(0, 1), holds ? 1 : 0);
    }

    private static void p14Sums() {
        sum("1+2*3 = 7", true);
        sum("7-2-3 = 2", true);
        sum("7-2*3+4*5 = 21", true);
        sum("7/2*2 = 6", true);
        sum("12/3/2 = 2", true);
        sum("2*7/4 = 3", true);
        sum("5/0 = 0", true);
        sum("5/goal/0+1 = 1", true);
        sum("0-7/2 = 0-3", true);
        sum("1 < 1", false);
        sum("1 <= 1", true);
        sum("2 <= 1", false);
        sum("1 >= 1", true);
        sum("1 >= 2", false);
        sum("2 > 1", true);
        sum("1 > 1", false);
        sum("not 1 = 2", true);
        sum("not not 1 = 2", false);
        sum("1=1 or 1=1 and 1=2", true);
        sum("[1=1 or 1=1] and 1=2", false);
        sum("1=2 and 1=1 or 1=1", true);
        sum("1=2 or 1=2 or 1=1", true);
        sum("1=1 and not 1=1 or 1=2", false);
        sum("not [1=1 and 1=2]", true);
        sum("not 1=2 and 1=2", false);
        sum("0 - 1 < 0", true);
        // 2 to the 63rd goes round to below 0, 2 to the 64th to 0.
        sum("32768*32768*32768*32768*8 < 0", true);
        sum("32768*32768*32768*32768*16 = 0", true);
        sum("32768*32768*32768*32768*8 - 1 > 0", true);
    }

    private static void p14Asking() {
        // By the map street 0 is shut, so that he would go the long way.
        MondayMaps m = DESK.with(Desk.ROW, "ask;go", "ask if left=9;go if left=2;wait");
        m.misprint(0, 0, 0);
        m.walker(0, 2, 0, 0, 8);
        due("p14 asks", m.step(0, 1), 0);
        about("p14 asked", m, 0, 0, 2, 0, 0, 9, 1, 1, NONE);
        due("p14 by the weekday's true map", m.step(0, 1), 1);
        due("p14 no second time", m.step(0, 1), 2);
        about("p14 went", m, 0, 2, 2, 0, 0, 11, 3, 1, 1);
        m.walker(0, 2, 0, 1, 23);
        due("p14 asks in the last hour of a day", m.step(1, 1), 0);
        due("p14 of no use: it is the next day", m.step(1, 1), 0);
        about("p14 asked again", m, 1, 0, 2, 0, 1, 25, 2, 2, NONE);
        due("p14 now it is", m.step(1, 1), 1);
        due("p14 shown is as it was", m.shown(0, 0), 0);
        m.walker(0, 2, 0, 1, 24 * 7 * 51 + 2);
        due("p14 a weekday far on", m.step(2, 2), 1);
    }

    private static void p15Soonest() {
        MondayMaps m = Desk.at(TOWN);
        due("p15 waits for the bridge", m.soonest(0, 2, 0), 9);
        due("p15 by the long street", m.soonest(0, 2, 24), 33);
        due("p15 street", m.soonest(0, 1, 0), 2);
        due("p15 waits for Sunday", m.soonest(1, 0, 2), 18);
        due("p15 waits for Tuesday", m.soonest(2, 3, 0), 25);
        due("p15 back on Wednesday", m.soonest(3, 2, 24), 49);
        due("p15 late", m.soonest(0, 1, 99999), 100001);
        due("p15 there already", m.soonest(1, 1, 50), 50);
        due("p15 not there", m.soonest(4, 1, 0), NONE);
        due("p15 not there", m.soonest(-1, 1, 0), NONE);
        due("p15 not there", m.soonest(1, 4, 0), NONE);
        due("p15 not there", m.soonest(1, -1, 0), NONE);
        due("p15 no hour", m.soonest(0, 1, -1), NONE);
        due("p15 no hour", m.soonest(0, 1, 100000), NONE);
        MondayMaps n = Desk.at("corners 3;street 0 1 1 =======;lift 0 0 24");
        due("p15 always lifted", n.soonest(0, 1, 0), -2);
        due("p15 no street", n.soonest(0, 2, 0), -2);
        MondayMaps o = Desk.at("corners 2;street 0 1 9 =......;lift 0 1 24");
        due("p15 begun in its one hour", o.soonest(0, 1, 0), 9);
        due("p15 next week", o.soonest(0, 1, 1), 177);
    }

    /** Mondays shut by eight saints, then a street each on the weekday before: at hour 2065. */
    private static void p15Horizon() {
        StringBuilder s = new StringBuilder("corners 7;street 0 1 1 >......;street 1 2 1 ......>;"
            + "street 2 3 1 .....>.;street 3 4 1 ....>..;street 4 5 1 ...>...;street 5 6 1 ..>....");
        for (int i = 0; i < 8; i++) {
            s.append(";saint 0 " + 7 * i);
        }
        MondayMaps m = Desk.at(s.toString());
        due("p15 within 2000", m.soonest(0, 6, 65), 2065);
        due("p15 not within 2000", m.soonest(0, 6, 64), -2);
        due("p16 within 2000", m.way(0, 6, 65, 5), 5);
        due("p16 has six", m.way(0, 6, 65, 6), -2);
        due("p16 not within 2000", m.way(0, 6, 64, 0), -2);
    }

    private static void p16Way() {
        MondayMaps m = Desk.at(TOWN);
        due("p16 first", m.way(0, 2, 0, 0), 0);
        due("p16 second", m.way(0, 2, 0, 1), 1);
        due("p16 has two", m.way(0, 2, 0, 2), -2);
        due("p16 of alike the least", m.way(0, 2, 24, 0), 0);
        due("p16 of alike the least", m.way(0, 2, 24, 1), 1);
        due("p16 k below 0", m.way(0, 2, 0, -1), NONE);
        due("p16 k far", m.way(0, 2, 0, MAX), -2);
        due("p16 there already", m.way(2, 2, 0, 0), -2);
        due("p16 not there", m.way(4, 2, 0, 0), NONE);
        due("p16 not there", m.way(0, -1, 0, 0), NONE);
        due("p16 no hour", m.way(0, 2, 100000, 0), NONE);
        due("p16 no hour", m.way(0, 2, -1, 0), NONE);
        MondayMaps n = Desk.at("corners 3;street 0 1 1 =======;street 0 2 5 .======");
        due("p16 while it waits", n.soonest(0, 2, 0), 29);
        for (int k = 0; k < 24; k++) {
            due("p16 to and fro " + k, n.way(0, 2, 0, k), 0);
        }
        due("p16 at last", n.way(0, 2, 0, 24), 1);
        due("p16 no more", n.way(0, 2, 0, 25), -2);
        due("p16 odd hours: one can still be there", n.way(0, 2, 1, 22), 1);
        MondayMaps o = Desk.at("corners 3;street 0 1 1 =======");
        due("p16 no way", o.way(0, 2, 0, 0), -2);
        // Street 2 is shut by its saint on Tuesday: who goes to corner 1 on Monday can still be back in time.
        MondayMaps q = Desk.at("corners 3;street 0 1 9 =......;street 1 0 1 .=.....;street 0 2 1 .======;saint 2 1");
        due("p16 Wednesday", q.soonest(0, 2, 0), 49);
        due("p16 aside on Monday", q.way(0, 2, 0, 0), 0);
        due("p16 and back", q.way(0, 2, 0, 1), 0);
        due("p16 and aside", q.way(0, 2, 0, 2), 0);
        due("p16 back on Tuesday", q.way(0, 2, 0, 3), 1);
        MondayMaps r = Desk.at("corners 3;street 0 1 5 =......;street 1 2 5 ======.;saint 2 1;lift 1 0 22");
        due("p16 begun at the last hour it can be", r.soonest(0, 2, 0), 27);
        due("p16 begun at the last hour it can be", r.way(0, 2, 0, 0), 0);
        due("p16 not on the saint's day", r.soonest(0, 2, 20), 2 * 24 + 22 + 5);
    }

    private static void p17Comes() {
        MondayMaps m = Desk.at(TOWN);
        m.print(0);
        m.walker(0, 2, 0, NONE, 0);
        due("p17 hour", m.comes(0, 400, 0), 9);
        due("p17 steps", m.comes(0, 400, 1), 6);
        due("p17 asked", m.comes(0, 400, 2), 0);
        due("p17 just", m.comes(0, 6, 0), 9);
        due("p17 not yet", m.comes(0, 5, 0), -2);
        due("p17 steps all the same", m.comes(0, 5, 1), 5);
        due("p17 none", m.comes(0, 0, 0), -2);
        due("p17 none", m.comes(0, 0, 1), 0);
        due("p17 too many", m.comes(0, 401, 0), NONE);
        due("p17 below", m.comes(0, -1, 0), NONE);
        due("p17 no such", m.comes(0, 1, 3), NONE);
        due("p17 no such", m.comes(0, 1, -1), NONE);
        due("p17 no walker", m.comes(1, 1, 0), NONE);
        about("p17 nothing changes", m, 0, 0, 2, 0, NONE, 0, 0, 0, NONE);
        MondayMaps n = DESK.with(Desk.ROW, "ask;wait");
        n.walker(0, 2, 0, 0, 0);
        n.step(0, 30);
        due("p17 asked before", n.about(0, 6), 2);
        due("p17 of these", n.comes(0, 48, 2), 2);
        due("p17 of these", n.comes(0, 48, 1), 48);
        n.walker(2, 2, 0, 0, 11);
        due("p17 at his goal", n.comes(1, 0, 0), 11);
        due("p17 at his goal", n.comes(1, 400, 1), 0);
    }

    private static void round(String what, MondayMaps m, int walker, int lead, int length) {
        due("p18 " + what + ", lead-in", m.round(walker, 0), lead);
        due("p18 " + what + ", length", m.round(walker, 1), length);
    }

    private static void p18Round() {
        MondayMaps m = Desk.at("corners 3;street 0 1 1 =======;street 1 2 1 .......");
        m.print(0);
        m.misprint(0, 1, 3);
        m.walker(0, 2, 0, NONE, 0);
        round("goes, then waits", m, 0, 1, 168);
        m.walker(1, 2, 0, NONE, 5);
        round("waits", m, 1, 0, 168);
        m.walker(0, 1, 0, NONE, 0);
        round("comes to his goal", m, 2, -2, -2);
        m.walker(2, 2, 0, NONE, 0);
        round("is at his goal", m, 3, -2, -2);
        due("p18 no walker", m.round(4, 0), NONE);
        due("p18 no walker", m.round(-1, 0), NONE);
        due("p18 no such", m.round(0, 2), NONE);
        due("p18 no such", m.round(0, -1), NONE);
        about("p18 nothing changes", m, 0, 0, 2, 0, NONE, 0, 0, 0, NONE);
        String ring = "corners 4;street 0 1 3 >>>>>>>;street 1 2 4 >>>>>>>;street 2 0 ";
        MondayMaps n = DESK.with(ring + "5 >>>>>>>", "go;aside");
        n.walker(0, 3, 0, 0, 0);
        round("a ring of 12 hours", n, 0, 1, 42);
        n.step(0, 1);
        round("a ring of 12 hours, from within", n, 0, 0, 42);
        MondayMaps o = DESK.with(ring + "4 >>>>>>>", "go;aside");
        o.walker(0, 3, 0, 0, 0);
        round("a ring of 11 hours: 504 steps", o, 0, -2, -2);
        // He waits for Saturday at eleven, goes, and waits for good: 132 steps and 168; an hour later it is too late.
        String late = "corners 3;street 0 1 1 .....=.;street 1 2 1 .......;lift 0 0 ";
        MondayMaps p = Desk.at(late + "11");
        p.print(5);
        p.misprint(0, 1, 3);
        p.walker(0, 2, 0, NONE, 0);
        round("within 300", p, 0, 132, 168);
        p = Desk.at(late + "12");
        p.print(5);
        p.misprint(0, 1, 3);
        p.walker(0, 2, 0, NONE, 0);
        round("not within 300", p, 0, -2, -2);
        // No saints, no asking, date and steps 0, asked as now.
        MondayMaps q = DESK.with("corners 2;street 0 1 1 =======;saint 0 0", "go if date>0 or steps>0;ask",
            "go if asked=0;ask");
        q.walker(0, 1, 0, 0, 24);
        round("date and steps are 0", q, 0, 0, 168);
        q.walker(0, 1, 0, 1, 0);
        round("no saints", q, 1, -2, -2);
        q.step(1, 1);
        due("p18 he asked", q.about(1, 6), 1);
        round("asked as now", q, 1, 0, 168);
        MondayMaps r = DESK.with(Desk.ROW, "ask;go");
        r.misprint(0, 0, 0);
        r.misprint(0, 2, 0);
        r.walker(0, 2, 0, 0, 0);
        r.step(0, 1);
        due("p18 by the true map he comes", r.comes(0, 9, 0), 3);
        round("by his map as it is, though he asked", r, 0, 0, 168);
    }

    private static void p19Questions() {
        MondayMaps m = Desk.at(Desk.ROW);
        m.print(0);
        m.misprint(0, 0, 0);
        m.walker(0, 2, 0, NONE, 0);
        due("p19 the long way", m.questions(0, 9), 0);
        due("p19 asks", m.questions(0, 8), 1);
        due("p19 asks", m.questions(0, 3), 1);
        due("p19 can't be", m.questions(0, 2), -2);
        due("p19 can't be", m.questions(0, 0), -2);
        due("p19 most", m.questions(0, 120), 0);
        due("p19 too many", m.questions(0, 121), NONE);
        due("p19 below", m.questions(0, -1), NONE);
        due("p19 no walker", m.questions(1, 1), NONE);
        m.misprint(0, 2, 0);
        m.walker(0, 2, 0, NONE, 23);
        due("p19 of no use at 23", m.questions(1, 3), -2);
        due("p19 waits for the next day", m.questions(1, 4), 1);
        m.walker(2, 2, 0, NONE, 23);
        due("p19 at his goal", m.questions(2, 0), 0);
        Desk.rule(m, "ask;wait");
        m.walker(0, 2, 0, 0, 5);
        m.step(3, 1);
        due("p19 he has asked", m.questions(3, 2), 0);
        due("p19 not soon enough", m.questions(3, 1), -2);
        about("p19 nothing changes", m, 3, 0, 2, 0, 0, 6, 1, 1, NONE);
        // Two days are needed: the first leg takes him over midnight.
        MondayMaps n = Desk.at("corners 3;street 0 1 9 =======;street 1 2 9 =======");
        n.print(0);
        n.misprint(0, 0, 0);
        n.misprint(0, 1, 0);
        n.walker(0, 2, 0, NONE, 20);
        due("p19 twice", n.questions(0, 20), 2);
        due("p19 he can wait for a morning", n.questions(0, 23), 1);
        due("p19 he can't", n.questions(0, 22), 2);
    }

    private static void p20Cheap() {
        MondayMaps m = Desk.at("corners 2;street 0 1 1 >>>>>.=;street 0 1 1 .><=.><;street 0 1 1 .>><<==;"
            + "street 0 1 1 ===<<<.;street 0 1 1 .......");
        int[] want = {1, 1, 1, 2, 0};
        for (int s = 0; s < 5; s++) {
            due("p20 cheap " + s, m.cheap(s), s == 1 ? 0 : want[s]);
        }
        due("p20 no street", m.cheap(5), NONE);
        due("p20 no street", m.cheap(-1), NONE);
        due("p20 no town", new MondayMaps().cheap(0), NONE);
    }

    private static void p21Wrong() {
        // Cheap: > and shut (two each of . > <, the first of them).
        MondayMaps m = Desk.at("corners 2;street 0 1 1 >>>>>.=;street 0 1 1 .><=.><");
        int[] want = {0, 1, 1, 1, 0, 2, 2, 7};
        for (int day = 0; day < 8; day++) {
            due("p21 wrong " + day, m.wrong(day), want[day]);
        }
        due("p21 no day", m.wrong(8), NONE);
        due("p21 no day", m.wrong(-1), NONE);
        due("p21 no streets", Desk.at("corners 2").wrong(7), 0);
    }

    private static void p22Errand() {
        MondayMaps m = Desk.at(TOWN);
        due("p22 unlike", m.errand(1, 1), -2);
        due("p22 no corner", m.errand(4, 1), -2);
        due("p22 no corner", m.errand(1, 4), -2);
        due("p22 no corner", m.errand(-2, 1), -2);
        due("p22 no corner", m.errand(1, -1), -2);
        for (int i = 1; i <= 6; i++) {
            due("p22 errand", m.errand(0, 3), i);
        }
        due("p22 there are 6", m.errand(0, 3), -2);
        due("p22 six", m.count(7), 6);
        due("p22 none", m.errand(NONE, 99), 0);
        due("p22 none", m.count(7), 0);
        due("p22 again", m.errand(3, 0), 1);
    }

    private static void p23Ways() {
        MondayMaps m = Desk.at(TOWN);
        due("p23 no errands", m.ways(0, 0), 0);
        due("p23 no errands", m.ways(0, 1), 0);
        // On Monday streets 0, 1 and 2 are a ring of 0, 1, 2; corner 3 is cut off.
        m.errand(2, 1);
        due("p23 street 1 back", m.ways(0, 0), 2);
        m.errand(0, 2);
        due("p23 street 2 as it is", m.ways(0, 0), 2);
        m.errand(1, 0);
        due("p23 a ring", m.ways(0, 0), 3);
        due("p23 no clash", m.ways(0, 1), 0);
        m.errand(0, 3);
        due("p23 clash", m.ways(0, 0), -2);
        due("p23 of one", m.ways(0, 1), 8);
        due("p23 on Tuesday", m.ways(1, 0), 3);
        m.errand(3, 1);
        due("p23 clash", m.ways(1, 0), -2);
        due("p23 there and back over one street", m.ways(1, 1), 24);
        due("p23 no day", m.ways(7, 0), NONE);
        due("p23 no day", m.ways(-1, 0), NONE);
        due("p23 no such", m.ways(0, 2), NONE);
        due("p23 no such", m.ways(0, -1), NONE);
        // On Saturday street 0 is shut: the first bit is street 1's.
        m.errand(NONE, 0);
        m.errand(2, 1);
        m.errand(3, 2);
        due("p23 bits of those not shut", m.ways(5, 0), 5);
        MondayMaps n = Desk.at("corners 4;street 0 1 1 >>>>>>>;street 1 2 1 <<<<<<<;street 2 3 1 =======");
        n.errand(0, 3);
        due("p23 the sign is not asked, but shut", n.ways(0, 0), 0);
        n.errand(3, 1);
        n.errand(1, 0);
        n.errand(2, 0);
        due("p23 of several the least", n.ways(0, 1), 3);
    }

    private static void p24Sight() {
        MondayMaps m = Desk.at(TOWN);
        due("p24 no street", m.sight(4, 0), -2);
        due("p24 no street", m.sight(-2, 0), -2);
        due("p24 no sign", m.sight(0, 4), -2);
        due("p24 no sign", m.sight(0, -1), -2);
        for (int i = 1; i <= 12; i++) {
            due("p24 sight", m.sight(1, 3), i);
        }
        due("p24 there are 12", m.sight(1, 3), -2);
        due("p24 twelve", m.count(8), 12);
        due("p24 none", m.sight(NONE, 9), 0);
        due("p24 none", m.count(8), 0);
    }

    private static void p25Weekdays() {
        MondayMaps m = Desk.at(TOWN);
        due("p25 all", m.weekdays(0), 127);
        // The most alike of seven: 5, 7, 6, and 2 of street 3.
        due("p25 look at", m.weekdays(1), 3);
        m.sight(3, 1);
        due("p25 Tuesday, Saturday", m.weekdays(0), 2 + 32);
        due("p25 look at", m.weekdays(1), 0);
        m.sight(0, 1);
        due("p25 Tuesday", m.weekdays(0), 2);
        due("p25 of alike the least", m.weekdays(1), 0);
        m.sight(2, 2);
        due("p25 none", m.weekdays(0), 0);
        due("p25 none", m.weekdays(1), -2);
        due("p25 no such", m.weekdays(2), NONE);
        due("p25 no such", m.weekdays(-1), NONE);
        MondayMaps n = Desk.at("corners 2");
        due("p25 no streets", n.weekdays(0), 127);
        due("p25 no streets", n.weekdays(1), -2);
    }

    private static void p26Came() {
        MondayMaps m = Desk.at(TOWN);
        due("p26 no corner", m.came(4), -2);
        due("p26 no corner", m.came(-2), -2);
        for (int i = 1; i <= 8; i++) {
            due("p26 came", m.came(3), i);
        }
        due("p26 there are 8", m.came(3), -2);
        due("p26 eight", m.count(9), 8);
        due("p26 none", m.came(NONE), 0);
        due("p26 none", m.count(9), 0);
    }

    private static void p27Had() {
        MondayMaps m = Desk.at(Desk.ROW);
        for (int i = 0; i < 3; i++) {
            m.print(0);
        }
        m.misprint(1, 0, 0);
        m.misprint(2, 0, 0);
        m.misprint(2, 2, 0);
        m.walker(0, 2, 2, NONE, 0);
        due("p27 nothing told", m.had(0), 7);
        m.came(1);
        due("p27 by way of 1", m.had(0), 1);
        m.came(2);
        due("p27 by way of 1 to 2", m.had(0), 1);
        m.came(1);
        due("p27 he is at his goal", m.had(0), 0);
        m.came(NONE);
        m.came(2);
        due("p27 to 2", m.had(0), 2);
        due("p27 no walker", m.had(1), NONE);
        due("p27 no walker", m.had(-1), NONE);
        about("p27 nothing changes", m, 0, 0, 2, 2, NONE, 0, 0, 0, NONE);
        Desk.rule(m, "ask;go");
        m.walker(0, 2, 2, 0, 0);
        due("p27 who asks has any", m.had(1), 0);
        m.came(NONE);
        m.came(1);
        due("p27 who asks has any", m.had(1), 7);
        // He waits 99 steps, then goes; or 100.
        Desk.rule(m, "wait if steps<99;go");
        Desk.rule(m, "wait if steps<100;go");
        m.walker(0, 2, 2, 1, 0);
        m.walker(0, 2, 2, 2, 0);
        due("p27 in 100 steps", m.had(2), 1);
        due("p27 not in 100 steps", m.had(3), 0);
        m.step(3, 1);
        due("p27 as he is now", m.had(3), 1);
    }

    private static void p28Built() {
        MondayMaps m = Desk.at("corners 3;street 0 1 4 =======");
        due("p28 no errands", m.built(2, 0, 2), 0);
        due("p28 no errands", m.built(2, 0, 0), 0);
        due("p28 no errands", m.built(2, 0, 1), 1);
        m.errand(1, 2);
        due("p28 corner", m.built(2, 0, 0), 1);
        due("p28 other", m.built(2, 0, 1), 2);
        due("p28 sum", m.built(2, 0, 2), 2);
        m.errand(0, 2);
        due("p28 of alike the first", m.built(2, 0, 0), 0);
        due("p28 of alike the first", m.built(2, 0, 1), 2);
        due("p28 sum", m.built(2, 0, 2), 8);
        due("p28 nothing is built", m.count(1), 1);
        due("p28 nothing is built", m.soonest(0, 2, 0), -2);
        due("p28 no hours", m.built(0, 0, 0), NONE);
        due("p28 no hours", m.built(10, 0, 0), NONE);
        due("p28 no hour", m.built(1, -1, 0), NONE);
        due("p28 no hour", m.built(1, 100000, 0), NONE);
        due("p28 latest", m.built(9, 99999, 2), 22);
        due("p28 no such", m.built(1, 0, 3), NONE);
        due("p28 no such", m.built(1, 0, -1), NONE);
        MondayMaps n = Desk.at("corners 4;saint 0 0;saint 3 1");
        n.errand(0, 1);
        n.errand(2, 3);
        due("p28 one can't be done", n.built(1, 24, 2), 1 + 2001);
        due("p28 a saint closes it", n.built(1, 0, 2), 1 + 2001);
        due("p28 so it is the other", n.built(1, 0, 0), 2);
        due("p28 so it is the other", n.built(1, 24, 0), 0);
    }

    private static void p29Seed() {
        MondayMaps m = new MondayMaps();
        due("p29 was", m.seed(5), 0);
        due("p29 was", m.seed(MAX), 5);
        due("p29 below", m.seed(-1), NONE);
        due("p29 below", m.seed(MIN), NONE);
        due("p29 nothing happened", m.count(10), MAX);
        due("p29 was", m.seed(0), MAX);
    }

    /** In a town of two corners and a street of three hours each stranger comes in one step. */
    private static void p30Strangers() {
        MondayMaps m = Desk.at("corners 2;street 0 1 3 =======");
        due("p30 no maps", m.strangers(NONE, 1, 1, 0), NONE);
        m.print(0);
        for (int seed = 0; seed < 5; seed++) {
            m.seed(seed * 1000003);
            long x = seed * 1000003;
            int unlike = 0;
            for (int i = 0; i < 30; i++) {
                x = (x * 1103515245L + 12345L) % 2147483648L;
                long corner = x / 65536 % 2;
                x = (x * 1103515245L + 12345L) % 2147483648L;
                unlike += corner != x / 65536 % 2 ? 1 : 0;
                x = (x * 1103515245L + 12345L) % 2147483648L;
                x = (x * 1103515245L + 12345L) % 2147483648L;
            }
            due("p30 all come", m.strangers(NONE, 30, 1, 0), 30);
            due("p30 hours", m.strangers(NONE, 30, 1, 1), 3 * unlike);
            due("p30 nothing changes", m.count(10), seed * 1000003);
        }
        Desk.rule(m, "wait");
        Desk.rule(m, "wait if steps<5;go");
        m.seed(7);
        int hours = m.strangers(NONE, 30, 1, 1);
        due("p30 by a rule: those who are there already", m.strangers(0, 30, 200, 0), 30 - hours / 3);
        due("p30 by a rule", m.strangers(0, 30, 200, 1), 0);
        due("p30 by a rule: n steps", m.strangers(1, 30, 5, 0), 30 - hours / 3);
        due("p30 by a rule: n steps", m.strangers(1, 30, 6, 0), 30);
        due("p30 by a rule: hours", m.strangers(1, 30, 6, 1), hours / 3 * 8);
        due("p30 one step of one", m.strangers(NONE, 1, 1, 0), 1);
        due("p30 no rule", m.strangers(2, 1, 1, 0), NONE);
        due("p30 no rule", m.strangers(-2, 1, 1, 0), NONE);
        due("p30 m", m.strangers(NONE, 0, 1, 0), NONE);
        due("p30 m", m.strangers(NONE, 31, 1, 0), NONE);
        due("p30 n", m.strangers(NONE, 1, 0, 0), NONE);
        due("p30 n", m.strangers(NONE, 1, 201, 0), NONE);
        due("p30 what", m.strangers(NONE, 1, 1, 2), NONE);
        due("p30 what", m.strangers(NONE, 1, 1, -1), NONE);
    }

    private static void p31Count() {
        MondayMaps m = Desk.at(TOWN);
        Desk.rule(m, "go");
        m.print(0);
        m.print(1);
        m.walker(0, 1, 0, NONE, 0);
        m.errand(0, 1);
        m.errand(0, 1);
        m.errand(0, 1);
        m.sight(0, 0);
        m.came(0);
        m.came(0);
        m.seed(123);
        m.feed(0, 0, 0, 0, 0);
        int[] want = {4, 4, 1, 1, 1, 2, 1, 3, 1, 2, 123, 20};
        for (int i = 0; i < 12; i++) {
            due("p31 count " + i, m.count(i), want[i]);
        }
        due("p31 no such", m.count(12), NONE);
        due("p31 no such", m.count(-1), NONE);
        due("p31 no such", m.count(MIN), NONE);
    }

    private static void p32Image() {
        MondayMaps m = new MondayMaps();
        due("p32 of nothing", m.image(0), 0);
        due("p32 none", m.image(4), NONE);
        due("p32 none", m.image(-1), NONE);
        Desk.town(m, TOWN);
        m.print(0);
        m.walker(0, 1, 0, NONE, 0);
        m.walker(0, 1, 0, NONE, 0);
        due("p32 walkers", m.image(3), 2);
        due("p32 nothing changes", m.count(6), 2);
    }

    private static void p33Back() {
        MondayMaps m = new MondayMaps();
        due("p33 never made", m.back(0), NONE);
        due("p33 none", m.back(4), NONE);
        due("p33 none", m.back(-1), NONE);
        m.image(1);
        Desk.town(m, TOWN);
        Desk.rule(m, "ask;wait");
        m.print(0);
        m.misprint(0, 0, 2);
        m.walker(0, 2, 0, 0, 4);
        m.step(0, 2);
        m.errand(0, 3);
        m.sight(3, 1);
        m.came(2);
        m.seed(9);
        m.image(0);
        Desk.rule(m, "go");
        m.misprint(0, 0, 3);
        m.step(0, 30);
        m.walker(0, 1, 0, 1, 0);
        m.errand(1, 2);
        m.sight(NONE, 0);
        m.came(1);
        m.seed(10);
        Desk.town(m, Desk.ROW);
        m.print(2);
        m.feed(0, 0, 0, 0, 0);
        due("p33 back", m.back(0), 1);
        int[] want = {4, 4, 1, 1, 2, 1, 1, 1, 1, 1, 9, 20};
        for (int i = 0; i < 12; i++) {
            due("p33 count " + i, m.count(i), want[i]);
        }
        about("p33 walker", m, 0, 0, 2, 0, 0, 6, 2, 1, NONE);
        due("p33 misprint", m.shown(0, 0), 2);
        due("p33 by the map", m.by(0, 1, 0, 0), 2);
        m.misprint(0, 0, 0);
        due("p33 by the map misprinted", m.by(0, 1, 0, 0), 12);
        due("p33 back", m.back(0), 1);
        due("p33 by the map as it was", m.by(0, 1, 0, 0), 2);
        due("p33 asked on that day", m.comes(0, 5, 2), 0);
        due("p33 town", m.soonest(0, 2, 0), 9);
        due("p33 sights", m.weekdays(0), 34);
        due("p33 never made", m.back(2), NONE);
        m.step(0, 5);
        due("p33 again", m.back(0), 1);
        due("p33 again", m.about(0, 4), 6);
        due("p33 to nothing", m.back(1), 0);
        due("p33 no town", m.count(0), 0);
        due("p33 the rules stay", m.count(4), 2);
        due("p33 no town", m.print(0), -2);
    }
}
