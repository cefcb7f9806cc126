/** The boundary cases that the second part of the document names: MAPS, BY A MAP, WALKERS and their STEPS. */
public final class WalkEdgeTest {
    private static final Desk DESK = new Desk("WalkEdgeTest");
    private static final int NONE = MondayMaps.NONE;

    public static void main(String[] args) {
        maps();
        copies();
        hoursByMap();
        streetByMap();
        mostStreets();
        walkers();
        atGoal();
        firstClause();
        goes();
        aside();
        asks();
        askedTillMidnight();
        askedMap();
        waits();
        withoutRule();
        DESK.close();
    }

    private static void about(MondayMaps m, int walker, int... want) {
        for (int i = 0; i < want.length; i++) {
            DESK.due("about " + i, m.about(walker, i), want[i]);
        }
    }

    private static void maps() {
        DESK.sentence("MAPS 0 to 3");
        MondayMaps m = Desk.at("corners 2;street 0 1 1 .><=.><");
        for (int i = 0; i < 4; i++) {
            DESK.due("a map", m.print(i), i);
        }
        DESK.due("a fifth", m.print(4), -2);
        for (int i = 0; i < 4; i++) {
            DESK.due("map " + i, m.shown(i, 0), i);
        }
        DESK.due("map 4", m.shown(4, 0), NONE);
        DESK.due("by map 3", m.by(3, 0, 1, 0), 1);
        DESK.due("by map 4", m.by(4, 0, 1, 0), NONE);
    }

    private static void copies() {
        DESK.sentence("each a copy of a weekday's SIGNS as they were told in the TOWN");
        MondayMaps m = Desk.at("corners 2;street 0 1 1 .><=.><;saint 0 0;lift 0 0 24");
        m.print(3);
        m.misprint(0, 0, 1);
        DESK.due("a second print", m.print(3), 1);
        DESK.due("is as told", m.shown(1, 0), 3);
        DESK.due("the first is misprinted", m.shown(0, 0), 1);
        MondayMaps n = Desk.at(Desk.fullTown());
        n.print(6);
        DESK.due("of the last STREET", n.shown(0, 11), 3);
        DESK.due("misprinted", n.misprint(0, 11, 0), 3);
        DESK.due("the next map", n.print(6), 1);
        DESK.due("its first STREET", n.shown(1, 0), 3);
        DESK.due("the last STREET", n.shown(0, 11), 0);
        DESK.due("the one before", n.shown(0, 10), 3);
    }

    private static void hoursByMap() {
        DESK.sentence("how many HOURS it is to a goal, if each day were as the MAP has it (SAINTS and LIFTS are not on it)");
        MondayMaps m = Desk.at("corners 3;street 0 1 9 =......;street 1 2 9 =......;saint 1 0;lift 0 0 24;lift 1 0 24");
        m.print(0);
        m.print(1);
        DESK.due("hours", m.by(0, 0, 2, 0), 18);
        DESK.due("back", m.by(0, 2, 0, 0), 18);
        DESK.due("on Tuesday's map", m.by(1, 0, 2, 0), -2);
        DESK.due("there, on Tuesday's map", m.by(1, 1, 1, 0), 0);
        m.misprint(1, 0, 1);
        DESK.due("misprinted", m.by(1, 0, 1, 0), 9);
        DESK.due("not back", m.by(1, 1, 0, 0), -2);
        m.misprint(1, 0, 2);
        DESK.due("misprinted the other way", m.by(1, 1, 0, 0), 9);
        DESK.due("not there", m.by(1, 0, 1, 0), -2);
        MondayMaps first = Desk.at("corners 3;street 1 0 2 =======;street 0 2 3 =======");
        first.print(0);
        DESK.due("by way of CORNER 0", first.by(0, 1, 2, 0), 5);
        // The farthest of all: ten corners in a row, nine hours each.
        StringBuilder s = new StringBuilder("corners 10");
        for (int i = 0; i < 9; i++) {
            s.append(";street " + i + " " + (i + 1) + " 9 =======");
        }
        MondayMaps far = Desk.at(s.toString());
        far.print(0);
        DESK.due("the farthest", far.by(0, 0, 9, 0), 81);
        DESK.due("the farthest back", far.by(0, 9, 0, 0), 81);
    }

    private static void streetByMap() {
        DESK.sentence("the STREET: the least by which it is still so few");
        MondayMaps m = Desk.at("corners 4;street 0 3 9 =======;street 2 3 3 =======;street 1 3 3 =======;"
            + "street 0 2 2 =======;street 0 1 2 =======;street 0 1 2 =======;street 3 0 5 =======");
        m.print(0);
        DESK.due("hours", m.by(0, 0, 3, 0), 5);
        DESK.due("of 3, 4, 5 and 6 the least", m.by(0, 0, 3, 1), 3);
        DESK.due("back: of 1, 2 and 6", m.by(0, 3, 0, 1), 1);
        m.misprint(0, 1, 2);
        DESK.due("street 1 is back alone", m.by(0, 0, 3, 1), 4);
        m.misprint(0, 4, 0);
        DESK.due("its like", m.by(0, 0, 3, 1), 5);
        m.misprint(0, 5, 2);
        DESK.due("the last", m.by(0, 0, 3, 1), 6);
        m.misprint(0, 6, 1);
        DESK.due("the long one", m.by(0, 0, 3, 1), 0);
        DESK.due("its hours", m.by(0, 0, 3, 0), 9);
        DESK.due("there: none", m.by(0, 3, 3, 1), -2);
    }

    private static void mostStreets() {
        DESK.sentence("STREETS 0 to 11");
        MondayMaps m = Desk.at("corners 2" + ";street0 1 9.......".repeat(11) + ";street0 1 9=......");
        m.print(0);
        DESK.due("by the last STREET", m.by(0, 0, 1, 1), 11);
        DESK.due("by the last STREET back", m.by(0, 1, 0, 1), 11);
        m.walker(0, 1, 0, NONE, 0);
        DESK.due("he goes it", m.step(0, 1), 1);
        Desk.rule(m, "aside");
        m.walker(1, 0, 0, 0, 23);
        DESK.due("or aside by it", m.step(1, 1), 0);
        String[] signs = {".><=.><", "><=.><=", "<=.><=.", "=.><=.>"};
        StringBuilder s = new StringBuilder("corners 2");
        for (int i = 0; i < 12; i++) {
            s.append(";street0 1 9" + signs[i % 4]);
        }
        MondayMaps n = Desk.at(s.toString());
        for (int map = 0; map < 4; map++) {
            DESK.due("four MAPS of them", n.print(map), map);
        }
        for (int map = 0; map < 4; map++) {
            for (int street = 0; street < 12; street++) {
                DESK.due("on MAP " + map + " STREET " + street, n.shown(map, street), (map + street) % 4);
            }
            DESK.due("there by MAP " + map, n.by(map, 0, 1, 1), map == 0 ? 1 : map == 1 ? 0 : map == 2 ? 1 : 0);
            DESK.due("back by MAP " + map, n.by(map, 1, 0, 1), map == 0 ? 2 : map == 1 ? 1 : 0);
            DESK.due("a STREET is built", n.built(1, 0, 2), 0);
            DESK.due("it is on no MAP", n.by(map, 0, 1, 0), 9);
        }
    }

    private static void walkers() {
        DESK.sentence("WALKERS 0 to 3: CORNER, goal, MAP, RULE (NONE: he goes), hour of his own");
        MondayMaps m = DESK.with(Desk.ROW, "wait");
        m.print(1);
        DESK.due("first", m.walker(0, 2, 0, NONE, 5), 0);
        DESK.due("second", m.walker(1, 0, 1, 0, 6), 1);
        DESK.due("third", m.walker(2, 1, 0, 0, 7), 2);
        DESK.due("fourth", m.walker(2, 2, 1, NONE, 8), 3);
        DESK.due("a fifth", m.walker(2, 2, 1, NONE, 8), -2);
        DESK.due("he steps", m.step(1, 2), 1);
        about(m, 0, 0, 2, 0, NONE, 5, 0, 0, NONE);
        about(m, 1, 1, 0, 1, 0, 8, 2, 0, NONE);
        about(m, 2, 2, 1, 0, 0, 7, 0, 0, NONE);
        about(m, 3, 2, 2, 1, NONE, 8, 0, 0, NONE);
        DESK.due("NONE: he goes", m.step(0, 1), 1);
    }

    private static void atGoal() {
        DESK.sentence("A STEP: at his goal nothing (it is none)");
        String[] rules = {"go", "aside", "ask", "wait"};
        for (int i = NONE; i < 4; i++) {
            MondayMaps m = DESK.with(Desk.ROW, rules);
            m.walker(1, 1, 0, i, 7);
            DESK.due("he stays", m.step(0, 200), 1);
            about(m, 0, 1, 1, 0, i, 7, 0, 0, NONE);
        }
        MondayMaps m = DESK.with(Desk.ROW);
        m.walker(0, 1, 0, NONE, 7);
        DESK.due("he comes, and stays", m.step(0, 200), 1);
        about(m, 0, 1, 1, 0, NONE, 8, 1, 0, 0);
    }

    private static void firstClause() {
        DESK.sentence("Else what the first CLAUSE tells that has no TEST, or whose TEST holds, and that may be done");
        // From corner 0 the map's way is lifted till six; street 1 aside is open on Mondays alone.
        String town = "corners 3;street 0 1 2 =======;street 0 2 3 >......;lift 0 0 6";
        MondayMaps m = DESK.with(town, "go;aside;ask;wait", "aside if 1=2;go;ask", "wait;go", "go if shut=1;wait if 1=2;ask");
        m.walker(0, 1, 0, 0, 0);
        DESK.due("go may not be done: aside", m.step(0, 1), 2);
        DESK.due("from there no STREET is OPEN: he asks", m.step(0, 1), 2);
        about(m, 0, 2, 1, 0, 0, 4, 2, 1, 0);
        DESK.due("not twice: he waits", m.step(0, 1), 2);
        about(m, 0, 2, 1, 0, 0, 5, 3, 1, 0);
        m.walker(0, 1, 0, 1, 5);
        DESK.due("no TEST holds, none may be gone: he asks", m.step(1, 1), 0);
        about(m, 1, 0, 1, 0, 1, 6, 1, 1, NONE);
        DESK.due("he goes", m.step(1, 1), 1);
        m.walker(0, 1, 0, 2, 6);
        DESK.due("what is first is done first", m.step(2, 200), 0);
        DESK.sentence("none: he waits");
        m.walker(0, 1, 0, 3, 5);
        DESK.due("he asks", m.step(3, 1), 0);
        DESK.due("none holds and may be done", m.step(3, 1), 0);
        about(m, 3, 0, 1, 0, 3, 7, 2, 1, NONE);
    }

    private static void goes() {
        DESK.sentence("He GOES the STREET by his MAP (there is one, and it is OPEN)");
        MondayMaps m = DESK.with("corners 3;street 0 1 2 =.=====;street 0 1 5 =======;street 1 2 1 =======", "go;ask if 1=2");
        m.walker(0, 1, 0, 0, 24);
        DESK.due("not OPEN, though another one is", m.step(0, 24), 0);
        DESK.due("OPEN on Wednesday", m.step(0, 1), 1);
        about(m, 0, 1, 1, 0, 0, 50, 25, 0, 0);
        m.misprint(0, 2, 0);
        m.walker(1, 2, 0, 0, 0);
        DESK.due("there is none by his MAP, though it is OPEN", m.step(1, 200), 1);
        m.misprint(0, 2, 2);
        DESK.due("nor if it is back on it", m.step(1, 200), 1);
        m.misprint(0, 2, 1);
        DESK.due("now there is one", m.step(1, 1), 2);
    }

    private static void aside() {
        DESK.sentence("He goes ASIDE by the least STREET that is OPEN from his CORNER");
        String town = "corners 5;street 2 1 1 =======;street 0 1 1 <......;street 0 2 1 =======;street 0 3 1 =======;"
            + "street 3 0 1 =======;saint 2 1;lift 3 5 7";
        MondayMaps m = DESK.with(town, "aside");
        m.walker(0, 4, 0, 0, 0);
        DESK.due("not 0 (not his), not 1 (back): 2", m.step(0, 1), 2);
        m.walker(0, 4, 0, 0, 24 + 4);
        DESK.due("a SAINT: 3", m.step(1, 1), 3);
        m.walker(0, 4, 0, 0, 24 + 5);
        DESK.due("LIFTED: 4", m.step(2, 1), 3);
        DESK.due("back by 4, for 3 is LIFTED still", m.step(2, 1), 0);
        about(m, 2, 0, 4, 0, 0, 31, 2, 0, 3);
        m.walker(4, 0, 0, 0, 0);
        DESK.due("none: he waits", m.step(3, 3), 4);
        about(m, 3, 4, 0, 0, 0, 3, 3, 0, NONE);
        MondayMaps n = DESK.with(Desk.ROW, "aside");
        n.walker(1, 0, 0, 0, 0);
        DESK.due("to his goal, too", n.step(0, 9), 0);
        about(n, 0, 0, 0, 0, 0, 1, 1, 0, 1);
    }

    private static void asks() {
        DESK.sentence("He ASKS, if he did not on this DAY: an hour goes by");
        MondayMaps m = DESK.with("corners 2", "ask");
        m.walker(0, 1, 0, 0, 22);
        int[] asked = {1, 1, 2, 2};
        for (int i = 0; i < 4; i++) {
            m.step(0, 1);
            about(m, 0, 0, 1, 0, 0, 23 + i, i + 1, asked[i], NONE);
        }
        m.step(0, 23);
        DESK.due("on the third DAY again", m.about(0, 6), 3);
        m.walker(0, 1, 0, 0, 23);
        m.step(1, 1);
        m.step(1, 1);
        DESK.due("at the last hour and at the next one", m.about(1, 6), 2);
        m.walker(0, 1, 0, 0, 0);
        DESK.due("on each DAY once", m.comes(2, 200, 2), 9);
    }

    private static void askedTillMidnight() {
        DESK.sentence("till this DAY is over (the DAY on which he asked) his MAP is a copy of its weekday");
        // Street 0 is open on Monday and Wednesday; his map, of Tuesday, has it shut.
        String town = "corners 2;street 0 1 2 =.=....";
        MondayMaps m = Desk.at(town);
        m.print(1);
        Desk.rule(m, "ask if asked=0;go");
        m.walker(0, 1, 0, 0, 22);
        DESK.due("asks at 22, goes at 23", m.comes(0, 2, 0), 25);
        m.walker(0, 1, 0, 0, 23);
        DESK.due("asks at 23: on Tuesday and Wednesday by his MAP again", m.comes(1, 200, 0), -2);
        m.walker(0, 1, 0, 0, 24);
        DESK.due("Tuesday's copy is of no use on Wednesday", m.comes(2, 200, 0), -2);
        m.walker(0, 1, 0, 0, 48);
        DESK.due("Wednesday's is", m.comes(3, 200, 0), 51);
        MondayMaps n = Desk.at("corners 3;street 0 1 9 =......;street 1 2 1 =======");
        n.print(1);
        n.misprint(0, 1, 0);
        Desk.rule(n, "ask if asked=0;go");
        n.walker(0, 2, 0, 0, 14);
        DESK.due("at 24 it is over, on the way too", n.comes(0, 200, 0), -2);
        n.walker(0, 2, 0, 0, 13);
        DESK.due("at 23 it is not", n.comes(1, 200, 0), 24);
        // A walker may start a DAY with the number of an asking day in another week.
        MondayMaps o = DESK.with("corners 2;street 0 1 1 .......", "ask");
        o.walker(0, 1, 0, 0, 0);
        DESK.due("a week later he asks again", o.comes(0, 169, 2), 8);
    }

    private static void askedMap() {
        DESK.sentence("a copy of its weekday, without MISPRINTS");
        MondayMaps m = DESK.with(Desk.ROW, "ask;go", "ask if left=9;go if left=2;wait");
        m.misprint(0, 1, 0);
        m.walker(0, 2, 0, 0, 0);
        DESK.due("by his MAP: the long street", m.by(0, 0, 2, 1), 2);
        DESK.due("he asks, and goes", m.step(0, 2), 1);
        DESK.due("on to his goal", m.step(0, 1), 2);
        DESK.due("his MAP is the same", m.shown(0, 1), 0);
        DESK.due("about it", m.about(0, 2), 0);
        m.walker(0, 2, 0, 1, 5);
        DESK.due("left is by the copy: 9, then 2", m.step(1, 2), 1);
    }

    private static void waits() {
        DESK.sentence("He WAITS: an hour goes by");
        MondayMaps m = DESK.with(Desk.ROW, "wait");
        m.walker(0, 2, 0, 0, 23);
        DESK.due("he waits", m.step(0, 1), 0);
        about(m, 0, 0, 2, 0, 0, 24, 1, 0, NONE);
        DESK.due("he waits", m.step(0, 200), 0);
        about(m, 0, 0, 2, 0, 0, 224, 201, 0, NONE);
    }

    private static void withoutRule() {
        DESK.sentence("(Without a RULE: he goes, if he may, else waits.)");
        MondayMaps m = DESK.with("corners 2;street 0 1 2 =======;lift 0 0 6", "ask");
        m.walker(0, 1, 0, NONE, 4);
        DESK.due("waits", m.step(0, 2), 0);
        about(m, 0, 0, 1, 0, NONE, 6, 2, 0, NONE);
        DESK.due("goes", m.step(0, 1), 1);
        about(m, 0, 1, 1, 0, NONE, 8, 3, 0, 0);
        m.misprint(0, 0, 0);
        m.walker(0, 1, 0, NONE, 6);
        DESK.due("no way: waits, never asks or goes aside", m.step(1, 50), 0);
        about(m, 1, 0, 1, 0, NONE, 56, 50, 0, NONE);
    }
}
