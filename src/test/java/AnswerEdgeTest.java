/** What the promises say of the answers themselves: the ends of what is told, none of a thing, no way, all of them. */
public final class AnswerEdgeTest {
    private static final Desk DESK = new Desk("AnswerEdgeTest");
    private static final int NONE = MondayMaps.NONE;
    private static final int MAX = Integer.MAX_VALUE;
    private static final int MIN = Integer.MIN_VALUE;

    public static void main(String[] args) {
        constants();
        feed();
        end();
        town();
        street();
        open();
        maps();
        by();
        walkers();
        steps();
        asked();
        toldAndSeen();
        ways();
        built();
        seed();
        strangers();
        counts();
        back();
        nothingChanges();
        nothingIsBuilt();
        facts();
        DESK.close();
    }

    private static void constants() {
        DESK.sentence("The constants: `NONE = -1`: None");
        DESK.due("NONE", MondayMaps.NONE, -1);
    }

    private static void feed() {
        DESK.sentence("Promise 2: Twenty bytes come behind the TAPE, of each number the highest first: how many it has");
        for (int place = 0; place < 20; place++) {
            // All blanks but one byte: the place of the FAULT tells where it came to stand.
            for (int wrong : new int[] {0, 'x', 127, 128, 255}) {
                int[] n = {0x20202020, 0x20202020, 0x20202020, 0x20202020, 0x20202020};
                int shift = 24 - 8 * (place % 4);
                n[place / 4] = n[place / 4] & ~(255 << shift) | wrong << shift;
                MondayMaps m = new MondayMaps();
                DESK.due("twenty", m.feed(n[0], n[1], n[2], n[3], n[4]), 20);
                DESK.due("byte " + wrong + " at " + place, m.town(), Desk.fault(place, 0));
                m.feed(0x676f2020, 0x20202020, 0x20202020, 0x20202020, 0x20202020);
                DESK.due("twenty more", m.feed(n[0], n[1], n[2], n[3], n[4]), 40);
                DESK.due("byte " + wrong + " at " + (20 + place), m.rule(), Desk.fault(20 + place, 0));
            }
        }
        MondayMaps m = new MondayMaps();
        for (int i = 1; i <= 20; i++) {
            DESK.due("how many", m.feed(MIN, -1, MAX, 0, 1), 20 * i);
        }
    }

    private static void end() {
        DESK.sentence("Promise 3: The TAPE has its first n bytes alone: n");
        String text = "corners 2;street 0 1 1 >>>>>>>;saint 0 0";
        int[] streets = new int[text.length() + 1];
        for (int n = 0; n <= text.length(); n++) {
            MondayMaps m = new MondayMaps();
            Desk.say(m, text);
            DESK.due("n", m.end(n), n);
            streets[n] = m.town();
            DESK.due("it is empty then", m.count(11), 0);
        }
        DESK.due("no byte", streets[0], Desk.fault(0, 0));
        DESK.due("corners", streets[7], Desk.fault(7, 0));
        DESK.due("corners and a blank", streets[8], Desk.fault(8, 0));
        DESK.due("corners 2", streets[9], 0);
        DESK.due("a semicolon", streets[10], Desk.fault(10, 0));
        DESK.due("six SIGNS", streets[29], Desk.fault(29, 0));
        DESK.due("seven SIGNS", streets[30], 1);
        DESK.due("a SAINT without a DATE", streets[39], Desk.fault(39, 0));
        DESK.due("all", streets[40], 1);
    }

    private static void town() {
        DESK.sentence("Promise 4: how many STREETS");
        StringBuilder s = new StringBuilder("corners 10");
        for (int i = 0; i <= 12; i++) {
            DESK.due(i + " STREETS", Desk.town(new MondayMaps(), s.toString()), i);
            s.append(";street " + i % 10 + " " + (i + 1) % 10 + " 1 =======");
        }
        DESK.due("a thirteenth", Desk.town(new MondayMaps(), s.toString()), Desk.fault(s.lastIndexOf(";") + 1, 4));
    }

    private static void street() {
        DESK.sentence("Promise 6: Of a STREET what 0, 1: its CORNERS, 2: HOURS, 3 to 9: its SIGN on a weekday (0 shut, 1 to the other one, 2 back, 3 both)");
        MondayMaps m = Desk.at("corners 10;street 9 0 9 .><=.><;street 0 9 1 =<>.=<>");
        int[][] want = {{9, 0, 9, 0, 1, 2, 3, 0, 1, 2}, {0, 9, 1, 3, 2, 1, 0, 3, 2, 1}};
        for (int street = 0; street < 2; street++) {
            for (int what = 0; what < 10; what++) {
                DESK.due("STREET " + street + " what " + what, m.street(street, what), want[street][what]);
            }
        }
    }

    private static void open() {
        DESK.sentence("Promise 7: 1 if a STREET is OPEN from a CORNER at an hour, else 0");
        MondayMaps m = Desk.at("corners 10;street 9 0 9 .><=.><");
        for (int day = 0; day < 14; day++) {
            int sign = day % 7 % 4;
            for (int hour = 24 * day; hour < 24 * day + 24; hour += 23) {
                DESK.due("from 9 at " + hour, m.open(0, 9, hour), sign % 2);
                DESK.due("from 0 at " + hour, m.open(0, 0, hour), sign / 2);
            }
        }
        // The last int is hour 7 of DAY 89478485, a weekday 5.
        DESK.due("from 9 at the last int", m.open(0, 9, MAX), 1);
        DESK.due("from 0 at the last int", m.open(0, 0, MAX), 0);
    }

    private static void maps() {
        DESK.sentence("Promise 8: A MAP is printed of a weekday: its number");
        MondayMaps m = Desk.at("corners 2;street 0 1 1 .><=.><");
        for (int map = 0; map < 4; map++) {
            DESK.due("its number", m.print(6 - map), map);
            DESK.due("of the weekday", m.shown(map, 0), (6 - map) % 4);
        }
        DESK.sentence("Promise 9: MISPRINT: a SIGN (0 to 3) of a STREET on a MAP: what it was");
        for (int map = 0; map < 4; map++) {
            int was = (6 - map) % 4;
            for (int sign = 0; sign <= 3; sign++) {
                DESK.due("what it was", m.misprint(map, 0, sign), was);
                DESK.due("the same again", m.misprint(map, 0, sign), sign);
                was = sign;
            }
            DESK.due("4", m.misprint(map, 0, 4), NONE);
            DESK.due("-1", m.misprint(map, 0, -1), NONE);
            DESK.due("as it was", m.shown(map, 0), 3);
        }
        DESK.sentence("MISPRINTS are told of it");
        DESK.due("not of the TOWN", m.street(0, 3), 0);
        DESK.due("it is shut", m.open(0, 0, 0), 0);
        DESK.due("on a MAP it is not", m.by(3, 1, 0, 0), 1);
        DESK.sentence("Promise 10: Of a MAP the SIGN of a STREET");
        MondayMaps n = Desk.at("corners 3;street 0 1 1 .><=.><;street 1 2 1 ><=.><=");
        n.print(2);
        DESK.due("the first", n.shown(0, 0), 2);
        DESK.due("the second", n.shown(0, 1), 3);
        n.misprint(0, 1, 0);
        DESK.due("misprinted", n.shown(0, 1), 0);
        DESK.due("the other one is not", n.shown(0, 0), 2);
    }

    private static void by() {
        DESK.sentence("Promise 11: BY A MAP what 0: HOURS (0 there), 1: the STREET; -2: there is no way (what 1: none is needed, too)");
        MondayMaps m = Desk.at("corners 3;street 0 1 4 >>>>>>>");
        m.print(0);
        int[][] hours = {{0, 4, -2}, {-2, 0, -2}, {-2, -2, 0}};
        for (int from = 0; from < 3; from++) {
            for (int to = 0; to < 3; to++) {
                DESK.due("HOURS from " + from + " to " + to, m.by(0, from, to, 0), hours[from][to]);
                DESK.due("the STREET from " + from + " to " + to, m.by(0, from, to, 1), from == 0 && to == 1 ? 0 : -2);
            }
        }
        MondayMaps n = Desk.at("corners 2");
        n.print(0);
        DESK.due("without STREETS, there", n.by(0, 1, 1, 0), 0);
        DESK.due("without STREETS, none is needed", n.by(0, 1, 1, 1), -2);
        DESK.due("without STREETS, no way", n.by(0, 0, 1, 0), -2);
    }

    private static void walkers() {
        DESK.sentence("Promise 12: A WALKER sets out: his number");
        MondayMaps m = DESK.with(Desk.ROW, "go", "ask;wait");
        for (int w = 0; w < 4; w++) {
            DESK.due("his number", m.walker(w % 3, (w + 1) % 3, 0, w % 3 - 1, 100 * w), w);
        }
        DESK.sentence("Promise 13: Of a WALKER what 0: CORNER, 1: goal, 2: MAP, 3: RULE, 4: hour, 5: STEPS, 6: how often he ASKED, 7: came (NONE: none)");
        int[][] atFirst = {{0, 1, 0, NONE, 0, 0, 0, NONE}, {1, 2, 0, 0, 100, 0, 0, NONE}, {2, 0, 0, 1, 200, 0, 0, NONE},
            {0, 1, 0, NONE, 300, 0, 0, NONE}};
        int[][] then = {{1, 1, 0, NONE, 1, 1, 0, 0}, {2, 2, 0, 0, 101, 1, 0, 1}, {2, 0, 0, 1, 230, 30, 2, NONE},
            {1, 1, 0, NONE, 301, 1, 0, 0}};
        about(m, atFirst);
        DESK.sentence("Promise 14: So many STEPS (1 to 200) of a WALKER, till he is at his goal: his CORNER");
        for (int w = 0; w < 4; w++) {
            DESK.due("his CORNER", m.step(w, 30), then[w][0]);
        }
        about(m, then);
        DESK.due("0", m.step(2, 0), NONE);
        DESK.due("201", m.step(2, 201), NONE);
        about(m, then);
        DESK.due("200", m.step(2, 200), 2);
        DESK.due("of them", m.about(2, 5), 230);
        DESK.due("1", m.step(2, 1), 2);
        DESK.due("of them", m.about(2, 5), 231);
        DESK.due("at his goal", m.step(0, 200), 1);
        DESK.due("none", m.about(0, 5), 1);
    }

    private static void about(MondayMaps m, int[][] want) {
        for (int w = 0; w < want.length; w++) {
            for (int what = 0; what < 8; what++) {
                DESK.due("WALKER " + w + " what " + what, m.about(w, what), want[w][what]);
            }
        }
    }

    private static void steps() {
        DESK.sentence("Promise 15: SOONEST");
        MondayMaps m = Desk.at("corners 3;street 0 1 9 =......;street 1 2 9 ......=;lift 0 0 23");
        DESK.due("at once", m.soonest(0, 1, 23), 32);
        DESK.due("it is there an hour before", m.soonest(0, 1, 22), 32);
        DESK.due("in a week", m.soonest(0, 1, 24), 168 + 32);
        DESK.due("on Sunday, whatever there is by then", m.soonest(1, 2, 167), 176);
        DESK.sentence("the STREETS of the WAY: of all by which one is there then");
        DESK.due("one behind the other", m.soonest(0, 2, 0), 144 + 9);
        DESK.due("the first", m.way(0, 2, 0, 0), 0);
        DESK.due("the second", m.way(0, 2, 0, 1), 1);
        DESK.due("no third", m.way(0, 2, 0, 2), -2);
        DESK.sentence("Promise 17: COMES what 0: the hour (-2: he does not), 1: STEPS, 2: how often he ASKED");
        MondayMaps n = DESK.with("corners 3;street 0 1 9 =======;street 1 2 9 .......", "ask;go");
        n.walker(0, 1, 0, 0, 40);
        n.walker(0, 2, 0, 0, 40);
        int[] comes = {50, 2, 1};
        int[] not = {-2, 400, 18};
        for (int what = 0; what < 3; what++) {
            DESK.due("who comes, what " + what, n.comes(0, 400, what), comes[what]);
            DESK.due("who does not, what " + what, n.comes(1, 400, what), not[what]);
        }
        DESK.sentence("Promise 18: ROUND what 0: LEAD-IN, 1: STEPS; -2: none (he comes to his goal, or not within 300)");
        DESK.due("who comes", n.round(0, 0), -2);
        DESK.due("who comes", n.round(0, 1), -2);
        DESK.due("who waits for good", n.round(1, 0), 0);
        DESK.due("for a week", n.round(1, 1), 168);
    }

    private static void asked() {
        DESK.sentence("Promise 19: QUESTIONS; -2: it can't be");
        MondayMaps m = DESK.with("corners 3;street 0 1 1 =======");
        m.misprint(0, 0, 0);
        m.walker(0, 1, 0, NONE, 0);
        DESK.due("one", m.questions(0, 2), 1);
        DESK.due("no time for it", m.questions(0, 1), -2);
        m.walker(0, 2, 0, NONE, 0);
        DESK.due("no way", m.questions(1, 120), -2);
        m.walker(2, 2, 0, NONE, 0);
        DESK.due("none", m.questions(2, 0), 0);
        DESK.sentence("Promise 20: CHEAP of a STREET: the SIGN");
        MondayMaps n = Desk.at("corners 2;street 0 1 1 .......;street 0 1 1 >>>>...;street 0 1 1 >>><<<<;street 0 1 1 <<<====");
        for (int street = 0; street < 4; street++) {
            DESK.due("STREET " + street, n.cheap(street), street);
        }
        DESK.sentence("Promise 21: CHEAP: how many are wrong on a weekday (7: on all together)");
        int[] want = {2, 2, 2, 0, 1, 1, 1, 9};
        for (int day = 0; day <= 7; day++) {
            DESK.due("weekday " + day, n.wrong(day), want[day]);
        }
    }

    private static void toldAndSeen() {
        DESK.sentence("Promise 25: WEEKDAYS what 0: as bits, 1: the STREET to look at next (-2: none fits, or there is no STREET)");
        MondayMaps m = Desk.at("corners 2;street 0 1 1 =......;street 0 1 1 ......=;street 0 1 1 .><=.><");
        DESK.due("all seven", m.weekdays(0), 127);
        DESK.due("the third", m.weekdays(1), 2);
        m.sight(0, 0);
        DESK.due("all but Monday", m.weekdays(0), 126);
        m.sight(1, 3);
        DESK.due("Sunday", m.weekdays(0), 64);
        DESK.due("all are alike then", m.weekdays(1), 0);
        m.sight(0, 3);
        DESK.due("none", m.weekdays(0), 0);
        DESK.due("none", m.weekdays(1), -2);
        MondayMaps n = Desk.at("corners 2");
        DESK.due("no STREET", n.weekdays(0), 127);
        DESK.due("no STREET", n.weekdays(1), -2);
        DESK.sentence("Promise 27: HAD, as bits");
        MondayMaps o = Desk.at("corners 2;street 0 1 1 =......");
        for (int map = 0; map < 4; map++) {
            o.print(map == 1 || map == 2 ? 0 : 1);
        }
        o.walker(0, 1, 0, NONE, 0);
        DESK.due("none told: all four", o.had(0), 15);
        o.came(1);
        DESK.due("the second and the third", o.had(0), 6);
        o.came(0);
        DESK.due("none", o.had(0), 0);
    }

    private static void ways() {
        DESK.sentence("Promise 23: WAYS on a weekday what 0: the bits (-2: there is a CLASH), 1: CLASH (0: there is none)");
        MondayMaps m = Desk.at("corners 2" + ";street0 1 1======.".repeat(12));
        m.errand(1, 0);
        DESK.due("the first back", m.ways(0, 0), 1);
        DESK.due("no CLASH", m.ways(0, 1), 0);
        m.errand(0, 1);
        DESK.due("there by the others", m.ways(5, 0), 1);
        DESK.due("no CLASH", m.ways(5, 1), 0);
        DESK.due("a CLASH", m.ways(6, 0), -2);
        DESK.due("of the first", m.ways(6, 1), 1);
        DESK.sentence("so that each ERRAND can be done by them");
        MondayMaps n = Desk.at("corners 10;street 1 0 1 =======;street 2 1 1 =======;street 3 2 1 =======;street 4 3 1 =======;"
            + "street 5 4 1 =======;street 6 5 1 =======;street 7 6 1 =======;street 8 7 1 =======;street 9 8 1 =======;street 9 0 1 =======");
        n.errand(0, 9);
        DESK.due("by the first nine back: 512 were more", n.ways(0, 0), 511);
        n.errand(9, 0);
        DESK.due("and there by the last", n.ways(0, 0), 511);
        n.errand(NONE, 0);
        n.errand(9, 0);
        DESK.due("all as they are", n.ways(0, 0), 0);
        n.errand(8, 9);
        DESK.due("the ninth back", n.ways(0, 0), 256);
        n.errand(7, 6);
        n.errand(0, 1);
        DESK.due("the first back", n.ways(0, 0), 257);
        n.errand(1, 0);
        DESK.due("all round", n.ways(0, 0), 511);
    }

    private static void built() {
        DESK.sentence("Promise 28: BUILT what 0, 1: its CORNERS, 2: the sum");
        MondayMaps m = Desk.at("corners 10");
        m.errand(9, 8);
        int[] want = {8, 9, 9};
        for (int what = 0; what < 3; what++) {
            DESK.due("what " + what, m.built(9, 0, what), want[what]);
        }
        DESK.sentence("BUILT: a new STREET .. of all two CORNERS those by which the sum of HOURS by SOONEST of all ERRANDS at an hour is least");
        for (int i = 0; i < 5; i++) {
            m.errand(i, i + 1);
        }
        DESK.due("one of six is done", m.built(9, 99999, 2), 9 + 5 * 2001);
        DESK.due("by the first two", m.built(9, 99999, 0), 0);
        DESK.due("by the first two", m.built(9, 99999, 1), 1);
        MondayMaps n = Desk.at("corners 4;street 0 1 2 =......;street 2 3 2 .=.....");
        n.errand(0, 1);
        n.errand(2, 3);
        DESK.due("on Monday the second is waited for", n.built(2, 0, 0), 2);
        DESK.due("on Monday", n.built(2, 0, 2), 4);
        DESK.due("on Tuesday the first", n.built(2, 24, 0), 0);
        DESK.due("on Tuesday", n.built(2, 24, 2), 4);
        DESK.due("late on Monday: in a week, or on Tuesday", n.built(2, 23, 0), 2);
    }

    private static void seed() {
        DESK.sentence("Promise 29: x becomes a number: what it was");
        MondayMaps m = new MondayMaps();
        int was = 0;
        for (int x : new int[] {0, 1, MAX, 65535, 65536, 0}) {
            DESK.due("what it was", m.seed(x), was);
            DESK.due("x", m.count(10), x);
            was = x;
        }
    }

    /** The DRAWS from 0 on are 0, 21468, 9988, 22117; 22117 mod 168 is 109. */
    private static void strangers() {
        DESK.sentence("CORNER, goal by DRAWS mod CORNERS");
        for (int corners = 2; corners <= 10; corners++) {
            int goal = 21468 % corners;
            MondayMaps m = Desk.at("corners " + corners + (goal == 0 ? "" : ";street " + goal + " 0 7 <<<<<<<"));
            m.print(0);
            DESK.due("from 0 to " + goal + " of " + corners, m.strangers(NONE, 1, 1, 0), 1);
            DESK.due("his HOURS", m.strangers(NONE, 1, 1, 1), goal == 0 ? 0 : 7);
        }
        DESK.sentence("hour a DRAW mod 168, by a RULE");
        MondayMaps n = DESK.with("corners 10;street 0 8 7 =======", "go if day=4 and hour=13", "go if day*24+hour<109", "go if day*24+hour>109");
        DESK.due("at 109", n.strangers(0, 1, 1, 0), 1);
        DESK.due("not before", n.strangers(1, 1, 1, 0), 0);
        DESK.due("nor behind", n.strangers(2, 1, 1, 0), 0);
        DESK.sentence("Promise 30: STRANGERS what 0: how many, 1: HOURS");
        DESK.due("one", n.strangers(NONE, 1, 1, 0), 1);
        DESK.due("seven", n.strangers(NONE, 1, 1, 1), 7);
        DESK.due("none", n.strangers(1, 1, 1, 0), 0);
        DESK.due("his are not counted", n.strangers(1, 1, 1, 1), 0);
    }

    private static void counts() {
        DESK.sentence("Promise 31: What 0: CORNERS, 1: STREETS, 2: SAINTS, 3: LIFTS, 4: RULES, 5: MAPS, 6: WALKERS, 7: ERRANDS, 8: SIGHTS, 9: CORNERS told as come to, 10: x, 11: bytes of the TAPE");
        MondayMaps m = Desk.at(Desk.fullTown());
        int[] want = {2, 12, 8, 4, 0, 0, 0, 0, 0, 0, 0, 0};
        int[] most = {2, 12, 8, 4, 6, 4, 4, 6, 12, 8, 21, 400};
        for (int round = 1; round <= 21; round++) {
            Desk.rule(m, "go");
            m.end(0);
            m.print(0);
            m.walker(0, 1, 0, NONE, 0);
            m.errand(0, 1);
            m.sight(0, 3);
            m.came(1);
            m.seed(round);
            for (int i = 4; i < 11; i++) {
                want[i] = Math.min(round, most[i]);
            }
            count(m, want);
        }
        for (int i = 1; i <= 21; i++) {
            m.feed(0, 0, 0, 0, 0);
            DESK.due("bytes", m.count(11), Math.min(20 * i, 400));
        }
        count(m, most);
    }

    private static void count(MondayMaps m, int[] want) {
        for (int what = 0; what < 11; what++) {
            DESK.due("what " + what, m.count(what), want[what]);
        }
    }

    private static void back() {
        DESK.sentence("Promise 33: All is as in an IMAGE: WALKERS");
        MondayMaps m = DESK.with(Desk.ROW);
        for (int k = 0; k < 4; k++) {
            DESK.due("made", m.image(k), k);
            m.walker(k % 3, 0, 0, NONE, 10 * k);
        }
        DESK.due("four", m.count(6), 4);
        for (int k = 3; k >= 0; k--) {
            DESK.due("WALKERS", m.back(k), k);
            DESK.due("the next one has the number", m.walker(0, 1, 0, NONE, 99), k);
            DESK.due("he is new", m.about(k, 4), 99);
            DESK.due("the one before is as he was", m.about(k - 1, 4), k == 0 ? NONE : 10 * (k - 1));
        }
        DESK.due("the IMAGE is not changed by what came behind", m.back(3), 3);
        DESK.due("as he was", m.about(0, 4), 0);
        DESK.due("as he was", m.about(2, 4), 20);
    }

    /** All calls that ask, many times, with the same answers. */
    private static void nothingChanges() {
        DESK.sentence("(By what is asked nothing changes.)");
        for (Scene s : Scene.values()) {
            MondayMaps m = s.set();
            boolean alike = Scene.view(m).equals(Scene.view(m));
            DESK.holds(s + ": asked twice, the same answers", alike);
            MondayMaps n = s.set();
            for (int i = 0; i < 3; i++) {
                n.strangers(NONE, 30, 200, i % 2);
                n.built(9 - i, 0, 2);
                n.ways(i, 0);
                n.had(i);
                n.questions(i, 120);
                n.round(i, 0);
                n.comes(i, 400, 0);
                n.way(0, 3, 0, i);
                n.weekdays(1);
            }
            DESK.holds(s + ": as if not asked", Scene.picture(n).equals(Scene.picture(s.set())));
        }
    }

    /** The STREET that was tried last, between the last two CORNERS, is on no WAY, and is not one of the WAYS. */
    private static void nothingIsBuilt() {
        DESK.sentence("the street that should be built");
        MondayMaps m = DESK.with("corners 4;street 0 2 1 >>>>>>>;street 0 1 1 >>>>>>>;street 1 3 1 >>>>>>>", "aside");
        m.walker(2, 3, 0, 0, 0);
        m.walker(2, 3, 0, NONE, 0);
        for (int i = 0; i < 2; i++) {
            DESK.due("soonest", m.soonest(0, 3, 0), 2);
            DESK.due("from 2 not", m.soonest(2, 3, 0), -2);
            DESK.due("the WAY", m.way(0, 3, 0, 0), 1);
            DESK.due("the WAY on", m.way(0, 3, 0, 1), 2);
            m.errand(NONE, 0);
            m.errand(2, 3);
            DESK.due("by 0, the first one back", m.ways(0, 0), 1);
            m.errand(3, 2);
            DESK.due("not there and back", m.ways(0, 1), 3);
            DESK.due("on no MAP", m.by(0, 2, 3, 0), -2);
            DESK.due("not aside by it", m.comes(0, 9, 0), -2);
            DESK.due("by no question", m.questions(1, 120), -2);
            DESK.due("all SIGNS are true", m.wrong(7), 0);
            DESK.due("no STREET 3", m.street(3, 0), NONE);
            DESK.due("its sum", m.built(1, 0, 2), 2);
        }
    }

    private static void facts() {
        DESK.sentence("FACT: not FACT | [ TEST ] (these brackets are signs)");
        MondayMaps m = DESK.with("corners 10;street 9 0 1 =======", "go if [1=2]", "go if not [1=2]", "go if not not [1=1 and not 1=2]",
            "go if [not[corner=9]or[goal=0]]");
        DESK.due("a bracket is no VALUE", Desk.rule(m, "go if [corner+goal]=9"), Desk.fault(18, 0));
        DESK.due("nor is not", Desk.rule(m, "go if 1=not 1"), Desk.fault(8, 0));
        int[] want = {9, 0, 0, 0};
        for (int w = 0; w < 4; w++) {
            m.walker(9, 0, 0, w, 0);
            DESK.due("by RULE " + w, m.step(w, 1), want[w]);
        }
        DESK.sentence("corner, goal");
        MondayMaps n = DESK.with("corners 10;street 9 0 1 =======", "go if corner=9 and goal=0", "go if corner=0 or goal=9");
        n.walker(9, 0, 0, 0, 0);
        n.walker(9, 0, 0, 1, 0);
        n.walker(0, 9, 0, 0, 0);
        n.walker(0, 9, 0, 1, 0);
        int[] by = {0, 9, 0, 9};
        for (int w = 0; w < 4; w++) {
            DESK.due("WALKER " + w, n.step(w, 1), by[w]);
        }
    }
}
