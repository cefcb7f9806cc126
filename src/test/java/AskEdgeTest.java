/** The boundary cases that the third part of the document names of COMES, ROUND, QUESTIONS, HAD, STRANGERS, IMAGES. */
public final class AskEdgeTest {
    private static final Desk DESK = new Desk("AskEdgeTest");
    private static final int NONE = MondayMaps.NONE;
    private static final int MAX = Integer.MAX_VALUE;

    public static void main(String[] args) {
        comes();
        comesAsked();
        roundWithin();
        roundAsHeWas();
        roundNoSaints();
        roundMap();
        roundWords();
        roundGoal();
        questionsWithin();
        questionsAsked();
        questionsOnOtherDays();
        questionsNeverAside();
        had();
        hadSteps();
        hadAsHeIs();
        draws();
        strangers();
        strangersAtGoal();
        images();
        imagesKeep();
        imagesKeepWhatIsTold();
        DESK.close();
    }

    private static void round(String what, MondayMaps m, int walker, int lead, int length) {
        DESK.due(what + ", lead-in", m.round(walker, 0), lead);
        DESK.due(what + ", length", m.round(walker, 1), length);
    }

    private static void comes() {
        DESK.sentence("COMES: a WALKER's hour when he is at his goal, by so many STEPS (0 to 400)");
        MondayMaps m = DESK.with(Desk.ROW, "wait if steps<399;go", "wait if steps<400;go");
        m.walker(0, 1, 0, 0, 10);
        DESK.due("in 400", m.comes(0, 400, 0), 410);
        DESK.due("not in 399", m.comes(0, 399, 0), -2);
        DESK.due("nor in 0", m.comes(0, 0, 0), -2);
        DESK.due("401", m.comes(0, 401, 0), NONE);
        DESK.due("-1", m.comes(0, -1, 0), NONE);
        m.walker(0, 1, 0, 1, 10);
        DESK.due("not in 400", m.comes(1, 400, 0), -2);
        m.walker(1, 1, 0, 1, 10);
        DESK.due("there, in 0", m.comes(2, 0, 0), 10);
        DESK.due("there, in 400", m.comes(2, 400, 0), 10);
        DESK.sentence("how many of these he did");
        DESK.due("400", m.comes(0, 400, 1), 400);
        DESK.due("399", m.comes(0, 399, 1), 399);
        DESK.due("0", m.comes(0, 0, 1), 0);
        DESK.due("he does not come", m.comes(1, 400, 1), 400);
        DESK.due("none at his goal", m.comes(2, 400, 1), 0);
        m.step(0, 200);
        DESK.due("of those behind it", m.comes(0, 400, 1), 200);
        DESK.due("the same hour", m.comes(0, 200, 0), 410);
    }

    private static void comesAsked() {
        DESK.sentence("how often he ASKED in them");
        MondayMaps m = DESK.with(Desk.ROW, "ask;wait");
        m.walker(0, 1, 0, 0, 0);
        DESK.due("in 0", m.comes(0, 0, 2), 0);
        DESK.due("in 1", m.comes(0, 1, 2), 1);
        DESK.due("in 24", m.comes(0, 24, 2), 1);
        DESK.due("in 25", m.comes(0, 25, 2), 2);
        DESK.due("in 400", m.comes(0, 400, 2), 17);
        m.step(0, 24);
        DESK.due("behind the first DAY", m.comes(0, 24, 2), 1);
        DESK.due("he did before", m.about(0, 6), 1);
    }

    /** He waits for Saturday, goes, and waits for good: so many STEPS till then, and a week. */
    private static void roundWithin() {
        DESK.sentence("behind how many STEPS at least he is as he was at some earlier one of them .. within 300: LEAD-IN, length");
        String town = "corners 3;street 0 1 1 .....=.;street 1 2 1 .......;lift 0 0 ";
        for (int hour = 11; hour <= 12; hour++) {
            MondayMaps m = Desk.at(town + hour);
            m.print(5);
            m.misprint(0, 1, 3);
            m.walker(0, 2, 0, NONE, 0);
            round("he goes at 120 and " + hour, m, 0, hour == 11 ? 132 : -2, hour == 11 ? 168 : -2);
        }
    }

    private static void roundAsHeWas() {
        DESK.sentence("(his CORNER, hour mod 168, came");
        MondayMaps m = DESK.with("corners 3;street 0 1 3 >>>>>>>;street 1 0 4 >>>>>>>", "aside");
        m.walker(0, 2, 0, 0, 0);
        round("came is none at first", m, 0, 1, 48);
        m.step(0, 2);
        round("now it is 1", m, 0, 0, 48);
        m.walker(2, 0, 0, NONE, 99999);
        round("waits a week", m, 1, 0, 168);
        // A spoke to 1 on all days and one to 3 on Sundays: he is at 0 at the same hour, but came from elsewhere.
        MondayMaps n = DESK.with("corners 5;street 0 3 6 ......=;street 0 1 6 =======", "aside");
        n.walker(0, 4, 0, 0, 0);
        round("of two weeks the first has no came", n, 0, 1, 28);
        n.step(0, 26);
        DESK.due("on Sunday", n.step(0, 1), 3);
        round("from within", n, 0, 0, 28);
        // He is at 0 at 151, at 3 at 169, too late to leave it before next Sunday; from then on he is there at Mondays.
        n.walker(0, 4, 0, 0, 7);
        DESK.due("to 1, at 13", n.step(1, 1), 1);
        round("26 STEPS till 169; 144 waits and 4 STREETS", n, 1, 26, 148);
        MondayMaps swing = DESK.with("corners 3;street 0 1 5 >>>>>>>;street 1 0 6 >>>>>>>", "aside");
        swing.walker(0, 2, 0, 0, 0);
        round("eleven HOURS to and fro: 336 STEPS; at 0 from 1 is not at 1 from 0", swing, 0, -2, -2);
        for (int far = 8; far <= 9; far++) {
            roundFrom(far);
        }
    }

    /** To and fro between 1 and a far CORNER till Sunday at 19, then to 0: a week behind the beginning. */
    private static void roundFrom(int far) {
        MondayMaps m = DESK.with("corners 10;street " + far + " 0 5 ......>;street 1 " + far + " 3 >>>>>>>;street " + far
            + " 1 2 >>>>>>>;lift 0 0 19;lift 0 20 24", "aside");
        m.walker(1, 7, 0, 0, 0);
        DESK.due("at 0", m.step(0, 66), 0);
        DESK.due("a week later", m.about(0, 4), 168);
        m.walker(1, 7, 0, 0, 0);
        round("at 0 from " + far + " is not at 1 from none", m, 1, 66, 168);
    }

    private static void roundNoSaints() {
        DESK.sentence("ROUND: with no SAINTS");
        MondayMaps m = DESK.with("corners 2;street 0 1 1 =......;saint 0 0;saint 1 7;saint 0 14");
        m.walker(0, 1, 0, NONE, 0);
        round("he comes at once", m, 0, -2, -2);
        DESK.due("but not really", m.comes(0, 400, 0), -2);
        MondayMaps n = DESK.with("corners 2;street 0 1 1 =======;lift 0 0 24");
        n.walker(0, 1, 0, NONE, 0);
        round("LIFTS are there", n, 0, 0, 168);
    }

    private static void roundMap() {
        DESK.sentence("by his MAP as it is (though he ASKED), if ask may not be done");
        MondayMaps m = DESK.with("corners 2;street 0 1 1 =======", "ask;go");
        m.misprint(0, 0, 0);
        m.walker(0, 1, 0, 0, 0);
        round("he may not ask", m, 0, 0, 168);
        DESK.due("else he comes", m.comes(0, 2, 0), 2);
        m.step(0, 1);
        round("he asked", m, 0, 0, 168);
        DESK.due("by the copy he comes", m.comes(0, 1, 0), 2);
        DESK.due("he asked once", m.about(0, 6), 1);
    }

    private static void roundWords() {
        DESK.sentence("date and steps are 0 as WORDS, asked as now");
        MondayMaps m = DESK.with("corners 2;street 0 1 1 =======", "go if date>0;wait", "go if steps>0;wait", "ask if asked=0;go if asked=1;wait");
        m.walker(0, 1, 0, 0, 24 * 5);
        round("date", m, 0, 0, 168);
        DESK.due("but really he comes", m.comes(0, 1, 0), 121);
        m.walker(0, 1, 0, 1, 0);
        round("steps", m, 1, 0, 168);
        DESK.due("but really he comes", m.comes(1, 2, 0), 2);
        m.walker(0, 1, 0, 2, 0);
        round("asked is 0", m, 2, 0, 168);
        m.step(2, 1);
        round("asked is 1", m, 2, -2, -2);
        MondayMaps n = DESK.with("corners 2;street 0 1 1 =======", "go if date=0;wait", "wait if hour=0;go if steps=0;wait");
        n.walker(0, 1, 0, 0, 24 * 5);
        round("date is 0", n, 0, -2, -2);
        DESK.due("but really he does not come", n.comes(0, 400, 0), -2);
        n.walker(0, 1, 0, 1, 0);
        n.step(1, 1);
        round("steps is 0", n, 1, -2, -2);
        DESK.due("but really he does not come", n.comes(1, 400, 0), -2);
    }

    private static void roundGoal() {
        DESK.sentence("-2: none (he comes to his goal, or not within 300)");
        MondayMaps m = DESK.with(Desk.ROW, "wait if hour<23;go", "wait if day<6 or hour<23;go");
        m.walker(1, 1, 0, NONE, 0);
        round("he is there", m, 0, -2, -2);
        m.walker(0, 1, 0, NONE, 0);
        round("by one STEP", m, 1, -2, -2);
        m.walker(0, 1, 0, 1, 0);
        round("by 168 STEPS", m, 2, -2, -2);
        MondayMaps n = DESK.with("corners 4;street 0 1 3 >>>>>>>;street 1 2 4 >>>>>>>;street 2 0 4 >>>>>>>", "aside");
        n.walker(0, 3, 0, 0, 0);
        round("eleven HOURS round: 504 STEPS", n, 0, -2, -2);
    }

    private static void questionsWithin() {
        DESK.sentence("to be at his goal within n HOURS (0 to 120)");
        MondayMaps m = Desk.at("corners 2;street 0 1 1 .....=.");
        m.print(5);
        m.walker(0, 1, 0, NONE, 1);
        DESK.due("in 120", m.questions(0, 120), 0);
        DESK.due("not in 119", m.questions(0, 119), -2);
        DESK.due("121", m.questions(0, 121), NONE);
        DESK.due("-1", m.questions(0, -1), NONE);
        m.walker(0, 1, 0, NONE, 0);
        DESK.due("not in 120", m.questions(1, 120), -2);
        DESK.due("in 0", m.questions(1, 0), -2);
        m.walker(1, 1, 0, NONE, 0);
        DESK.due("there, in 0", m.questions(2, 0), 0);
        m.walker(0, 1, 0, NONE, 143);
        DESK.due("at the last hour of Saturday", m.questions(3, 1), 0);
        StringBuilder s = new StringBuilder("corners 10");
        for (int i = 0; i < 9; i++) {
            s.append(";street " + i + " " + (i + 1) + " 9 =======");
        }
        MondayMaps far = Desk.at(s.toString());
        far.print(0);
        far.walker(0, 9, 0, NONE, 7);
        DESK.due("over ten CORNERS", far.questions(0, 81), 0);
        DESK.due("not sooner", far.questions(0, 80), -2);
        far.misprint(0, 8, 0);
        // He asks on each of four DAYS: at 7, 24 (or 25), 48, 72; there are four hours more for it.
        DESK.due("a question on each DAY", far.questions(0, 85), 4);
        DESK.due("no sooner", far.questions(0, 84), -2);
        MondayMaps never = Desk.at(s.append(";saint 9 0;saint 9 1;saint 9 2;saint 9 3;saint 9 4;saint 9 5").toString());
        never.print(0);
        never.walker(0, 9, 0, NONE, 0);
        DESK.due("saints at the last CORNER", never.questions(0, 120), -2);
        never.walker(0, 9, 0, NONE, 34);
        DESK.due("behind them", never.questions(1, 119), 0);
        DESK.due("not before", never.questions(1, 118), -2);
    }

    private static void questionsAsked() {
        DESK.sentence("QUESTIONS: the fewest he must ask from now on");
        // By the map both streets are shut; the days of the second leg are told anew each time.
        MondayMaps m = Desk.at("corners 3;street 0 1 9 =======;street 1 2 9 =======");
        m.print(0);
        m.misprint(0, 0, 0);
        m.misprint(0, 1, 0);
        Desk.rule(m, "ask;wait");
        m.walker(0, 2, 0, 0, 0);
        DESK.due("one in the morning", m.questions(0, 19), 1);
        DESK.due("not in 18", m.questions(0, 18), -2);
        m.step(0, 1);
        DESK.due("he asked: none from now on", m.questions(0, 18), 0);
        m.step(0, 5);
        DESK.due("at six: the first leg till 15, the second one till 24", m.questions(0, 18), 0);
        m.step(0, 9);
        DESK.due("at 15: he asks on the next DAY", m.questions(0, 19), 1);
        DESK.due("at 15: not in 18", m.questions(0, 18), -2);
        m.walker(0, 2, 0, NONE, 20);
        DESK.due("two", m.questions(1, 20), 2);
        DESK.due("one, if he waits for a morning", m.questions(1, 23), 1);
        DESK.due("not yet", m.questions(1, 22), 2);
        m.walker(0, 2, 0, NONE, 23);
        DESK.due("asked at 23 it is over at 24", m.questions(2, 19), -2);
        DESK.due("so on the next DAY", m.questions(2, 20), 1);
    }

    private static void questionsOnOtherDays() {
        DESK.sentence("if at each STEP he GOES (if it may be), ASKS (likewise) or WAITS as he likes");
        MondayMaps m = Desk.at("corners 2;street 0 1 2 .>.....;saint 1 8");
        m.print(0);
        m.walker(0, 1, 0, NONE, 20);
        DESK.due("waits for Tuesday, asks, goes", m.questions(0, 7), 1);
        DESK.due("not in 6", m.questions(0, 6), -2);
        m.walker(0, 1, 0, NONE, 168);
        DESK.due("a SAINT on the next Tuesday", m.questions(1, 120), -2);
        m.walker(0, 1, 0, NONE, 46);
        DESK.due("asks at 46, goes at 47", m.questions(2, 3), 1);
        m.walker(0, 1, 0, NONE, 47);
        DESK.due("too late", m.questions(3, 120), -2);
        MondayMaps n = Desk.at("corners 2;street 0 1 2 =======;lift 0 0 20");
        n.print(0);
        n.walker(0, 1, 0, NONE, 0);
        DESK.due("waits for the LIFT", n.questions(0, 22), 0);
        DESK.due("no question helps", n.questions(0, 21), -2);
    }

    private static void questionsNeverAside() {
        DESK.sentence("(never ASIDE)");
        // His map has the short street; it is lifted, and by the true map it is the short street still.
        MondayMaps m = Desk.at("corners 3;street 0 2 1 =======;street 0 1 2 =======;street 1 2 2 =======;lift 0 0 23");
        m.print(0);
        Desk.rule(m, "aside;go");
        m.walker(0, 2, 0, 0, 0);
        DESK.due("aside he would come", m.comes(0, 2, 1), 2);
        DESK.due("in 24", m.questions(0, 24), 0);
        DESK.due("not in 23", m.questions(0, 23), -2);
    }

    private static void had() {
        DESK.sentence("HAD: CORNERS 0 to 7 that a WALKER came to, one behind the other, were told");
        // From 1 a walker can only go to and fro: by 8 corners told the eighth tells.
        MondayMaps m = DESK.with("corners 3;street 0 1 1 =======;street 1 2 1 .......", "aside");
        m.print(0);
        m.walker(0, 2, 0, 0, 0);
        DESK.due("none told: all MAPS", m.had(0), 3);
        for (int i = 0; i < 7; i++) {
            DESK.due("came to", m.came(i % 2 == 0 ? 1 : 0), i + 1);
            DESK.due("in this order", m.had(0), 3);
        }
        DESK.due("the eighth", m.came(1), 8);
        DESK.due("is not the next one", m.had(0), 0);
        DESK.due("a ninth", m.came(0), -2);
        DESK.due("eight", m.count(9), 8);
        m.came(NONE);
        m.came(0);
        DESK.due("where he sets out he does not come to", m.had(0), 0);
        m.came(NONE);
        m.came(1);
        m.came(1);
        DESK.due("not twice", m.had(0), 0);
        DESK.sentence("MAPS by which a WALKER .. comes to these first, in this order (of one he comes to by a STREET, goal or not)");
        MondayMaps n = DESK.with(Desk.ROW);
        for (int i = 1; i < 4; i++) {
            n.print(0);
        }
        n.misprint(1, 0, 0);
        n.misprint(2, 0, 0);
        n.misprint(2, 2, 0);
        n.misprint(3, 2, 0);
        n.walker(0, 2, 2, NONE, 0);
        DESK.due("none told: all four", n.had(0), 15);
        n.came(1);
        DESK.due("by 1", n.had(0), 9);
        n.came(2);
        DESK.due("by 1 to his goal", n.had(0), 9);
        n.came(1);
        DESK.due("behind his goal none", n.had(0), 0);
        n.came(NONE);
        n.came(2);
        DESK.due("to his goal first", n.had(0), 2);
        n.walker(2, 2, 0, NONE, 0);
        DESK.due("who is there comes to none", n.had(1), 0);
        n.came(NONE);
        DESK.due("none told", n.had(1), 15);
    }

    private static void hadSteps() {
        DESK.sentence("in 100 STEPS");
        MondayMaps m = DESK.with(Desk.ROW, "wait if steps<99;go", "wait if steps<100;go", "wait if steps<98;go");
        m.walker(0, 2, 0, 0, 0);
        m.walker(0, 2, 0, 1, 0);
        m.walker(0, 2, 0, 2, 0);
        m.came(1);
        DESK.due("by the hundredth", m.had(0), 1);
        DESK.due("by the next one", m.had(1), 0);
        m.came(2);
        DESK.due("the second by the 101st", m.had(0), 0);
        DESK.due("the second by the hundredth", m.had(2), 1);
    }

    private static void hadAsHeIs() {
        DESK.sentence("who sets out as he is now (but for the MAP)");
        MondayMaps m = DESK.with(Desk.ROW, "go if steps>1 and asked=1 and came=1;ask;aside;wait");
        m.print(0);
        m.misprint(1, 0, 0);
        m.walker(1, 2, 0, 0, 0);
        m.came(2);
        DESK.due("aside to 0, by map 0 back to 1, by map 1 to 2", m.had(0), 0);
        DESK.due("he asks, goes aside", m.step(0, 2), 0);
        DESK.due("came, steps and asked are his: by the copy to 1", m.had(0), 0);
        m.came(NONE);
        m.came(1);
        DESK.due("by any map: he asked on this DAY", m.had(0), 3);
        m.came(NONE);
        m.came(2);
        MondayMaps n = DESK.with(Desk.ROW, "go if steps>1");
        n.print(0);
        n.misprint(1, 0, 0);
        n.walker(0, 2, 0, 0, 0);
        n.step(0, 2);
        n.came(2);
        DESK.due("map 1 alone", n.had(0), 2);
        n.step(0, 1);
        DESK.due("from 1 both", n.had(0), 3);
    }

    /** The DRAWS from 0 on are 0, 21468, 9988, 22117; then 3498, 16927, 16045, 19741. */
    private static void draws() {
        DESK.sentence("x (0 to 2147483647; 0 at first) becomes x * 1103515245 + 12345, of 2147483648 the rest; a DRAW is x / 65536");
        // From 0 to 8, by map 1 of three, at 109: on weekday 4 at 13.
        MondayMaps m = Desk.at("corners 10;street 0 8 3 ....=..;lift 0 13 14");
        DESK.due("x at first", m.count(10), 0);
        m.print(0);
        m.print(4);
        m.print(0);
        DESK.due("one STEP: he waits", m.strangers(NONE, 1, 1, 0), 0);
        DESK.due("two STEPS: he is there", m.strangers(NONE, 1, 2, 0), 1);
        DESK.due("an hour and three", m.strangers(NONE, 1, 2, 1), 4);
        DESK.due("x is as it was", m.count(10), 0);
        MondayMaps n = Desk.at("corners 10;street 0 8 3 ....=..;lift 0 0 13;lift 0 14 24");
        n.print(4);
        DESK.due("at 13", n.strangers(NONE, 1, 1, 1), 3);
        MondayMaps o = Desk.at("corners 10;street 8 7 5 ...=...;lift 0 0 13;lift 0 14 24");
        o.print(3);
        DESK.due("the second one at 85: on weekday 3 at 13", o.strangers(NONE, 2, 1, 1), 5);
        // From 2147483647 on: 15929, 4409, 9862, 26718 (from 9 to 9); 8713, 28226, 9080, 32063 (3 to 6, at 143).
        MondayMaps p = Desk.at("corners 10;street 6 3 7 .....=.;lift 0 0 23");
        p.print(5);
        DESK.due("the last x", p.seed(MAX), 0);
        DESK.due("who is there already", p.strangers(NONE, 1, 1, 0), 1);
        DESK.due("and the second", p.strangers(NONE, 2, 1, 0), 2);
        DESK.due("his HOURS", p.strangers(NONE, 2, 1, 1), 7);
        DESK.due("x is as it was", p.count(10), MAX);
    }

    private static void strangers() {
        DESK.sentence("STRANGERS m times (1 to 30), n STEPS (1 to 200)");
        MondayMaps m = DESK.with("corners 2;street 0 1 1 =======", "wait if steps<199;go", "wait if steps<200;go");
        int unlike = 0;
        for (int i = 1; i <= 30; i++) {
            int hours = m.strangers(NONE, i, 1, 1);
            DESK.due("all of " + i, m.strangers(NONE, i, 1, 0), i);
            DESK.holds("one more each time, or he is there", hours == unlike || hours == unlike + 1);
            unlike = hours;
        }
        DESK.due("in 200 STEPS", m.strangers(0, 30, 200, 0), 30);
        DESK.due("their HOURS", m.strangers(0, 30, 200, 1), 200 * unlike);
        DESK.due("in 199 STEPS", m.strangers(0, 30, 199, 0), 30 - unlike);
        DESK.due("by the other RULE", m.strangers(1, 30, 200, 0), 30 - unlike);
        int[][] wrong = {{0, 1}, {-1, 1}, {31, 1}, {MAX, 1}, {1, 0}, {1, -1}, {1, 201}, {1, MAX}};
        for (int[] w : wrong) {
            DESK.due("m " + w[0] + ", n " + w[1], m.strangers(NONE, w[0], w[1], 0), NONE);
        }
    }

    private static void strangersAtGoal() {
        DESK.sentence("how many are at their goal behind these; HOURS that went by, of those");
        MondayMaps m = DESK.with("corners 2", "ask;wait");
        // No street: only those come who are there. Of the first two none (0 to 0, since 21468 is even).
        DESK.due("0 to 0", m.strangers(0, 1, 200, 0), 1);
        DESK.due("no HOURS", m.strangers(0, 1, 200, 1), 0);
        DESK.due("0 to 0, 0 to 1", m.strangers(0, 2, 200, 0), 1);
        DESK.due("no HOURS of the other one", m.strangers(0, 2, 200, 1), 0);
        DESK.sentence("MAP by a DRAW mod MAPS");
        MondayMaps n = Desk.at("corners 10;street 0 8 1 =======");
        for (int maps = 1; maps <= 4; maps++) {
            n.print(0);
            for (int map = 0; map < maps; map++) {
                n.misprint(map, 0, map == 9988 % maps ? 3 : 0);
            }
            DESK.due("of " + maps, n.strangers(NONE, 1, 1, 1), 1);
            n.misprint(9988 % maps, 0, 0);
            DESK.due("of " + maps + ", shut on it", n.strangers(NONE, 1, 1, 0), 0);
            n.misprint(9988 % maps, 0, 3);
        }
    }

    private static void images() {
        DESK.sentence("IMAGES 0 to 3");
        MondayMaps m = new MondayMaps();
        for (int k = 0; k < 4; k++) {
            DESK.due("never made", m.back(k), NONE);
            m.seed(100 + k);
            DESK.due("made", m.image(k), 0);
        }
        DESK.due("image 4", m.image(4), NONE);
        DESK.due("image -1", m.image(-1), NONE);
        DESK.due("back 4", m.back(4), NONE);
        DESK.due("back -1", m.back(-1), NONE);
        for (int k = 3; k >= 0; k--) {
            DESK.due("back", m.back(k), 0);
            DESK.due("as it was", m.count(10), 100 + k);
        }
        m.seed(7);
        m.image(2);
        m.seed(8);
        m.back(2);
        DESK.due("made again", m.count(10), 7);
        m.back(3);
        DESK.due("the others are as they were", m.count(10), 103);
    }

    private static void imagesKeep() {
        DESK.sentence("all but the TAPE and the RULES, as it is; gone back to, it is as it was (these stay)");
        MondayMaps m = DESK.with(Desk.ROW, "ask;go");
        m.misprint(0, 0, 0);
        m.walker(0, 2, 0, 0, 5);
        m.step(0, 1);
        m.errand(2, 0);
        m.sight(1, 3);
        m.came(1);
        m.seed(33);
        DESK.due("one WALKER", m.image(0), 1);
        m.errand(NONE, 0);
        m.errand(0, 1);
        m.sight(NONE, 0);
        m.sight(0, 0);
        m.came(NONE);
        m.came(0);
        m.misprint(0, 0, 3);
        m.step(0, 1);
        m.walker(1, 1, 0, NONE, 0);
        DESK.due("two WALKERS", m.image(1), 2);
        Desk.rule(m, "wait");
        Desk.town(m, "corners 5;saint 0 1");
        Desk.say(m, "corners 7");
        DESK.due("gone back to", m.back(0), 1);
        int[] counts = {3, 3, 0, 0, 2, 1, 1, 1, 1, 1, 33, 9};
        for (int i = 0; i < 12; i++) {
            DESK.due("count " + i, m.count(i), counts[i]);
        }
        DESK.due("the MISPRINT", m.shown(0, 0), 0);
        DESK.due("by the MAP", m.by(0, 0, 2, 0), 9);
        int[] about = {0, 2, 0, 0, 6, 1, 1, NONE};
        for (int i = 0; i < 8; i++) {
            DESK.due("about " + i, m.about(0, i), about[i]);
        }
        DESK.due("he asked on this DAY: by the copy he goes to 1", m.had(0), 1);
        DESK.due("the ERRAND", m.ways(0, 0), 3);
        DESK.due("the SIGHT", m.weekdays(0), 127);
        DESK.due("the other IMAGE", m.back(1), 2);
        DESK.due("its ERRAND", m.built(1, 0, 1), 1);
        DESK.due("its SIGHT", m.weekdays(0), 0);
        DESK.due("its MISPRINT", m.by(0, 0, 2, 0), 2);
        DESK.due("its WALKER", m.about(0, 0), 1);
        DESK.due("who is at his goal", m.about(1, 1), 1);
        DESK.due("the CORNER told", m.had(0), 0);
        DESK.due("the TAPE stays", m.town(), 0);
        DESK.due("its bytes", m.count(0), 7);
        DESK.due("x stays", m.count(10), 33);
        DESK.due("the IMAGES stay", m.back(0), 1);
        DESK.due("the IMAGES stay", m.count(0), 3);
    }

    private static void imagesKeepWhatIsTold() {
        DESK.sentence("as it is; gone back to, it is as it was");
        MondayMaps m = Desk.at("corners 4;street 0 1 1 =......;street 1 2 1 .=.....;street 2 3 1 ..=....");
        for (int k = 0; k < 3; k++) {
            m.sight(NONE, 0);
            m.sight(k, 3);
            m.errand(NONE, 0);
            m.errand(k, k + 1);
            m.image(k);
        }
        m.sight(NONE, 0);
        m.sight(0, 0);
        m.errand(NONE, 0);
        m.errand(3, 0);
        for (int k = 2; k >= 0; k--) {
            m.back(k);
            DESK.due("the SIGHT on STREET " + k, m.weekdays(0), 1 << k);
            for (int day = 0; day < 3; day++) {
                DESK.due("the ERRAND from CORNER " + k + " on weekday " + day, m.ways(day, 1), day == k ? 0 : 1);
            }
        }
    }
}
