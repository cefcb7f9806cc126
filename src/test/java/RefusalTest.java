import java.util.Arrays;
import java.util.List;
import java.util.Set;

/**
 * Each promise by its ranges: what is just within them is answered, what is just outside is refused, and nothing
 * happens then: all later calls answer as on an object on which the refused call was never made.
 */
public final class RefusalTest {
    private static final Desk DESK = new Desk("RefusalTest");
    private static final int NONE = MondayMaps.NONE;
    private static final int MAX = Integer.MAX_VALUE;
    private static final int MIN = Integer.MIN_VALUE;
    /** By these nothing changes, refused or not. */
    private static final Set<String> ASKED = Set.of("street", "open", "shown", "by", "about", "soonest", "way", "comes",
        "round", "questions", "cheap", "wrong", "ways", "weekdays", "had", "built", "strangers", "count");

    public static void main(String[] args) {
        pictures();
        tape();
        streets();
        maps();
        walkers();
        soonest();
        asked();
        town();
        told();
        built();
        rest();
        noTown();
        bareTown();
        full();
        faults();
        rulesBehindFaults();
        townsInPlace();
        neverMade();
        DESK.close();
    }

    /** What is due, and that it leaves no trace. */
    private static void refused(Scene scene, int want, String name, int... args) {
        MondayMaps m = scene.set();
        String what = scene + " " + name + Arrays.toString(args);
        DESK.due(what, Scene.call(m, name, args), want);
        DESK.holds(what + " leaves no trace, which", Scene.picture(m).equals(Scene.picture(scene.set())));
    }

    private static void taken(Scene scene, int refusal, String name, int... args) {
        MondayMaps m = scene.set();
        String what = scene + " " + name + Arrays.toString(args);
        DESK.holds(what + " is taken, which", Scene.call(m, name, args) != refusal);
        if (ASKED.contains(name)) {
            DESK.holds(what + " changes nothing, which", Scene.picture(m).equals(Scene.picture(scene.set())));
        }
    }

    /** Each argument at both ends of its range and just outside, the others as they are given. */
    private static void ranges(Scene scene, int refusal, String name, int[] args, int[]... ranges) {
        for (int i = 0; i < args.length; i++) {
            int[] a = args.clone();
            for (int edge : ranges[i]) {
                a[i] = edge;
                taken(scene, refusal, name, a);
            }
            a[i] = ranges[i][0] - 1;
            refused(scene, refusal, name, a);
            a[i] = MIN;
            refused(scene, refusal, name, a);
            if (ranges[i][1] != MAX) {
                a[i] = ranges[i][1] + 1;
                refused(scene, refusal, name, a);
                a[i] = MAX;
                refused(scene, refusal, name, a);
            }
        }
    }

    private static int[] a(int... args) {
        return args;
    }

    private static void pictures() {
        DESK.sentence("An object is used for at most 512 calls after it has been made");
        for (Scene s : Scene.values()) {
            List<Integer> p = Scene.picture(s.set());
            DESK.holds(s + " is within them", p.size() + Scene.SETTING_CALLS + 1 <= Scene.MOST_CALLS);
            DESK.holds(s + " is the same each time", p.equals(Scene.picture(s.set())));
        }
        MondayMaps half = Scene.HALF.set();
        MondayMaps full = Scene.FULL.set();
        int[] wantHalf = {4, 4, 1, 1, 2, 2, 2, 4, 2, 2, 77, 40};
        int[] wantFull = {4, 4, 1, 1, 6, 4, 4, 6, 12, 8, MAX, 400};
        for (int i = 0; i < 12; i++) {
            DESK.due("half, count " + i, half.count(i), wantHalf[i]);
            DESK.due("full, count " + i, full.count(i), wantFull[i]);
        }
    }

    private static void tape() {
        DESK.sentence("Promise 2: NONE, and none comes, if it would have more than 400");
        refused(Scene.FULL, NONE, "feed", 0, 0, 0, 0, 0);
        for (int length = 380; length <= 400; length++) {
            MondayMaps m = Scene.FULL.set();
            m.end(length);
            DESK.due("from " + length, m.feed(0x20202020, 0, 0, 0, 0), length == 380 ? 400 : NONE);
            DESK.due("it has", m.count(11), length == 380 ? 400 : length);
        }
        DESK.sentence("Promise 3: NONE, and nothing happens, if it has not so many, or n is below 0");
        ranges(Scene.HALF, NONE, "end", a(3), a(0, 40));
        ranges(Scene.FULL, NONE, "end", a(3), a(0, 400));
        refused(Scene.HALF, 40, "end", 40);
        MondayMaps m = new MondayMaps();
        DESK.due("none of none", m.end(0), 0);
        DESK.due("one of none", m.end(1), NONE);
        Desk.say(m, "corners 23");
        DESK.due("its first nine bytes alone", m.end(9), 9);
        DESK.due("the tenth is gone", m.end(10), NONE);
        DESK.due("the TOWN", m.town(), 0);
        DESK.due("has so many", m.count(0), 2);
    }

    private static void streets() {
        DESK.sentence("Promise 6: NONE without these");
        ranges(Scene.HALF, NONE, "street", a(0, 0), a(0, 3), a(0, 9));
        DESK.sentence("Promise 7: NONE without these (not of its two CORNERS)");
        ranges(Scene.HALF, NONE, "open", a(0, 0, 0), a(0, 2), a(0, 1), a(0, MAX));
        refused(Scene.HALF, NONE, "open", 3, 0, 0);
        refused(Scene.HALF, NONE, "open", 2, 1, 0);
        refused(Scene.HALF, NONE, "open", 4, 0, 0);
        taken(Scene.HALF, NONE, "open", 3, 3, 0);
    }

    private static void maps() {
        DESK.sentence("Promise 8: -2, and nothing happens, without these (no TOWN), or if there are 4");
        ranges(Scene.HALF, -2, "print", a(0), a(0, 6));
        refused(Scene.FULL, -2, "print", 0);
        refused(Scene.EMPTY, -2, "print", 0);
        DESK.sentence("Promise 9: NONE, and nothing happens, without these");
        ranges(Scene.HALF, NONE, "misprint", a(0, 0, 0), a(0, 1), a(0, 3), a(0, 3));
        DESK.sentence("Promise 10: NONE without these");
        ranges(Scene.HALF, NONE, "shown", a(0, 0), a(0, 1), a(0, 3));
        ranges(Scene.FULL, NONE, "shown", a(0, 0), a(0, 3), a(0, 3));
        DESK.sentence("Promise 11: NONE without these");
        ranges(Scene.HALF, NONE, "by", a(0, 0, 1, 0), a(0, 1), a(0, 3), a(0, 3), a(0, 1));
        ranges(Scene.FULL, NONE, "by", a(0, 0, 1, 0), a(0, 3), a(0, 3), a(0, 3), a(0, 1));
    }

    private static void walkers() {
        DESK.sentence("Promise 12: -2, and nothing happens, without these (RULE, or NONE), or if there are 4");
        ranges(Scene.HALF, -2, "walker", a(0, 1, 0, -1, 0), a(0, 3), a(0, 3), a(0, 1), a(-1, 1), a(0, MAX));
        refused(Scene.FULL, -2, "walker", 0, 1, 0, -1, 0);
        refused(Scene.EMPTY, -2, "walker", 0, 1, 0, -1, 0);
        refused(Scene.BARE, -2, "walker", 0, 1, 0, -1, 0);
        DESK.sentence("Promise 13: NONE without these");
        ranges(Scene.HALF, NONE, "about", a(0, 0), a(0, 1), a(0, 7));
        DESK.sentence("Promise 14: NONE, and nothing happens, without these");
        ranges(Scene.HALF, NONE, "step", a(0, 1), a(0, 1), a(1, 200));
        ranges(Scene.FULL, NONE, "step", a(0, 1), a(0, 3), a(1, 200));
    }

    private static void soonest() {
        DESK.sentence("Promise 15: -2: not so; NONE without these");
        ranges(Scene.HALF, NONE, "soonest", a(0, 1, 0), a(0, 3), a(0, 3), a(0, 99999));
        refused(Scene.BARE, -2, "soonest", 0, 1, 0);
        refused(Scene.BARE, 7, "soonest", 1, 1, 7);
        DESK.sentence("Promise 16: -2: not so, or it has not so many; NONE without these (k below 0, too)");
        ranges(Scene.HALF, NONE, "way", a(0, 1, 0, 0), a(0, 3), a(0, 3), a(0, 99999), a(0, MAX));
        refused(Scene.BARE, -2, "way", 0, 1, 0, 0);
        refused(Scene.BARE, NONE, "way", 0, 1, 0, -1);
        refused(Scene.HALF, -2, "way", 0, 1, 0, MAX);
        refused(Scene.HALF, -2, "way", 1, 1, 0, 0);
    }

    private static void asked() {
        DESK.sentence("Promise 17: NONE without these");
        ranges(Scene.HALF, NONE, "comes", a(0, 0, 0), a(0, 1), a(0, 400), a(0, 2));
        DESK.sentence("Promise 18: NONE without these");
        ranges(Scene.HALF, NONE, "round", a(0, 0), a(0, 1), a(0, 1));
        DESK.sentence("Promise 19: NONE without these");
        ranges(Scene.HALF, NONE, "questions", a(0, 0), a(0, 1), a(0, 120));
    }

    private static void town() {
        DESK.sentence("Promise 20: NONE without it");
        ranges(Scene.HALF, NONE, "cheap", a(0), a(0, 3));
        DESK.sentence("Promise 21: (7: on all together); NONE without these, or a TOWN");
        ranges(Scene.HALF, NONE, "wrong", a(0), a(0, 7));
        refused(Scene.BARE, 0, "wrong", 7);
        refused(Scene.EMPTY, NONE, "wrong", 7);
        DESK.sentence("Promise 23: NONE without these, or a TOWN");
        ranges(Scene.HALF, NONE, "ways", a(0, 0), a(0, 6), a(0, 1));
        refused(Scene.BARE, 0, "ways", 0, 0);
        refused(Scene.EMPTY, NONE, "ways", 0, 1);
        DESK.sentence("Promise 25: (-2: none fits, or there is no STREET). NONE without these, or a TOWN");
        ranges(Scene.HALF, NONE, "weekdays", a(0), a(0, 1));
        refused(Scene.BARE, 127, "weekdays", 0);
        refused(Scene.BARE, -2, "weekdays", 1);
        refused(Scene.EMPTY, NONE, "weekdays", 1);
    }

    private static void told() {
        DESK.sentence("Promise 22: An ERRAND (from NONE: there are none then, 0): how many; -2, and nothing happens, without these (unlike CORNERS), or if there are 6");
        ranges(Scene.HALF, -2, "errand", a(2, 1), a(-1, 3), a(0, 3));
        for (int corner = 0; corner < 4; corner++) {
            refused(Scene.HALF, -2, "errand", corner, corner);
        }
        refused(Scene.FULL, -2, "errand", 2, 1);
        refused(Scene.EMPTY, -2, "errand", 2, 1);
        cleared("errand", 7, NONE, 99);
        DESK.sentence("Promise 24: A SIGHT (street NONE: there are none then, 0): how many; -2, and nothing happens, without these, or if there are 12");
        ranges(Scene.HALF, -2, "sight", a(0, 0), a(-1, 3), a(0, 3));
        refused(Scene.FULL, -2, "sight", 0, 0);
        refused(Scene.EMPTY, -2, "sight", 0, 0);
        cleared("sight", 8, NONE, 99);
        DESK.sentence("Promise 26: A CORNER that was come to is told (NONE: none is, 0): how many; -2, and nothing happens, without it, or if there are 8");
        ranges(Scene.HALF, -2, "came", a(0), a(-1, 3));
        refused(Scene.FULL, -2, "came", 0);
        refused(Scene.EMPTY, -2, "came", 0);
        cleared("came", 9, NONE);
        DESK.sentence("Promise 27: NONE without him");
        ranges(Scene.HALF, NONE, "had", a(0), a(0, 1));
    }

    /** With NONE there are none, in each scene; and one can be told again. */
    private static void cleared(String name, int what, int... args) {
        for (Scene s : Scene.values()) {
            MondayMaps m = s.set();
            DESK.due(s + " " + name + " NONE", Scene.call(m, name, args), 0);
            for (int i = 0; i < 12; i++) {
                DESK.due("count " + i, m.count(i), i == what ? 0 : s.set().count(i));
            }
            if (s == Scene.HALF || s == Scene.FULL) {
                int[] one = args.length == 2 ? a(1, 3) : a(1);
                DESK.due(s + " " + name + " again", Scene.call(m, name, one), 1);
            }
        }
        refused(Scene.EMPTY, 0, name, args);
    }

    private static void built() {
        DESK.sentence("Promise 28: NONE without these, or a TOWN");
        ranges(Scene.HALF, NONE, "built", a(1, 0, 0), a(1, 9), a(0, 99999), a(0, 2));
        refused(Scene.BARE, 0, "built", 1, 0, 0);
        refused(Scene.BARE, 1, "built", 1, 0, 1);
        refused(Scene.BARE, 0, "built", 1, 0, 2);
        refused(Scene.EMPTY, NONE, "built", 1, 0, 0);
    }

    private static void rest() {
        DESK.sentence("Promise 29: NONE, and nothing happens, below 0");
        ranges(Scene.HALF, NONE, "seed", a(0), a(0, MAX));
        MondayMaps m = Scene.HALF.set();
        DESK.due("what it was", m.seed(MAX), 77);
        DESK.due("what it was", m.seed(0), MAX);
        DESK.due("what it was", m.seed(-1), NONE);
        DESK.due("it is 0 still", m.seed(5), 0);
        DESK.sentence("Promise 30: NONE without these (RULE, or NONE; no MAPS)");
        ranges(Scene.HALF, NONE, "strangers", a(-1, 1, 1, 0), a(-1, 1), a(1, 30), a(1, 200), a(0, 1));
        refused(Scene.BARE, NONE, "strangers", -1, 1, 1, 0);
        refused(Scene.EMPTY, NONE, "strangers", -1, 1, 1, 0);
        DESK.sentence("Promise 31: NONE for others");
        ranges(Scene.HALF, NONE, "count", a(0), a(0, 11));
        DESK.sentence("Promise 32: NONE without it");
        ranges(Scene.HALF, NONE, "image", a(0), a(0, 3));
        DESK.sentence("Promise 33: NONE, and nothing happens .. or without it");
        ranges(Scene.FULL, NONE, "back", a(0), a(0, 3));
    }

    /** What a call without a TOWN answers, and that it leaves no trace. */
    private static void noTown() {
        DESK.sentence("Promise 1: No TOWN, no RULES");
        MondayMaps m = new MondayMaps();
        for (int i = 0; i < 12; i++) {
            DESK.due("count " + i, m.count(i), 0);
        }
        Object[][] calls = {{"street", a(0, 0)}, {"open", a(0, 0, 0)}, {"misprint", a(0, 0, 0)}, {"shown", a(0, 0)},
            {"by", a(0, 0, 1, 0)}, {"about", a(0, 0)}, {"step", a(0, 1)}, {"soonest", a(0, 1, 0)},
            {"soonest", a(0, 0, 0)}, {"way", a(0, 1, 0, 0)}, {"comes", a(0, 1, 0)}, {"round", a(0, 0)},
            {"questions", a(0, 1)}, {"cheap", a(0)}, {"wrong", a(0)}, {"ways", a(0, 0)}, {"weekdays", a(0)},
            {"had", a(0)}, {"built", a(1, 0, 0)}, {"strangers", a(-1, 1, 1, 0)}, {"strangers", a(0, 1, 1, 0)},
            {"back", a(0)}};
        for (Object[] c : calls) {
            refused(Scene.EMPTY, NONE, (String) c[0], (int[]) c[1]);
        }
        for (String name : new String[] {"print", "came"}) {
            refused(Scene.EMPTY, -2, name, 0);
        }
        refused(Scene.EMPTY, -2, "errand", 0, 1);
        refused(Scene.EMPTY, -2, "sight", 0, 1);
        refused(Scene.EMPTY, -2, "walker", 0, 1, 0, -1, 0);
    }

    private static void bareTown() {
        DESK.sentence("NONE without these");
        refused(Scene.BARE, NONE, "street", 0, 0);
        refused(Scene.BARE, NONE, "open", 0, 0, 0);
        refused(Scene.BARE, NONE, "misprint", 0, 0, 0);
        refused(Scene.BARE, NONE, "shown", 0, 0);
        refused(Scene.BARE, NONE, "by", 0, 0, 1, 0);
        refused(Scene.BARE, NONE, "about", 0, 0);
        refused(Scene.BARE, NONE, "step", 0, 1);
        refused(Scene.BARE, NONE, "comes", 0, 0, 0);
        refused(Scene.BARE, NONE, "round", 0, 0);
        refused(Scene.BARE, NONE, "questions", 0, 0);
        refused(Scene.BARE, NONE, "cheap", 0);
        refused(Scene.BARE, NONE, "had", 0);
        refused(Scene.BARE, -2, "sight", 0, 0);
        taken(Scene.BARE, -2, "print", 6);
        taken(Scene.BARE, -2, "errand", 0, 3);
        taken(Scene.BARE, -2, "came", 3);
    }

    private static void full() {
        DESK.sentence("Promise 5: NONE, and nothing happens: there are 6");
        refused(Scene.FULL, NONE, "rule");
        MondayMaps m = Scene.FULL.set();
        m.end(0);
        Desk.say(m, "go");
        DESK.due("a good text, too", m.rule(), NONE);
        DESK.due("which stays", m.count(11), 2);
        DESK.due("six", m.count(4), 6);
    }

    /** A text that is no TOWN, or no RULE: the TAPE is empty then, and all else is as it was. */
    private static void faults() {
        DESK.sentence("Promise 4: -2 - its FAULT, and all stays");
        for (Scene s : Scene.values()) {
            fault(s, "town", "corners 1", Desk.fault(8, 1));
            fault(s, "town", "", Desk.fault(0, 0));
            fault(s, "town", "corners 3;street 0 1 9 =======;saint 0 0;lift 0 0 24;", Desk.fault(53, 0));
        }
        DESK.sentence("Promise 5: -2 - its FAULT");
        for (Scene s : new Scene[] {Scene.EMPTY, Scene.BARE, Scene.HALF}) {
            fault(s, "rule", "go if", Desk.fault(5, 0));
            fault(s, "rule", "wait;aside if not 1=1;", Desk.fault(22, 0));
        }
        DESK.sentence("Promise 4: in place of the one there was (no MAPS, WALKERS, ERRANDS, SIGHTS, nobody told as come; x stays)");
        for (Scene s : Scene.values()) {
            MondayMaps m = s.set();
            MondayMaps before = s.set();
            DESK.due(s + " town", m.town(), 1);
            int[] want = {6, 1, 1, 0, before.count(4), 0, 0, 0, 0, 0, before.count(10), 0};
            for (int i = 0; i < 12; i++) {
                DESK.due(s + " count " + i, m.count(i), want[i]);
            }
            DESK.due("its street", m.street(0, 0), 4);
            DESK.due("no other", m.street(1, 0), NONE);
            DESK.due("no LIFT, no old SAINT", m.open(0, 4, 3 * 24), 1);
            DESK.due("its SAINT", m.open(0, 4, 5 * 24), 0);
            DESK.due("a MAP is the first", m.print(3), 0);
            DESK.due("as told", m.shown(0, 0), 3);
            DESK.due("by it", m.by(0, 5, 4, 0), 6);
            DESK.due("a WALKER is the first", m.walker(5, 4, 0, NONE, 72), 0);
            DESK.due("he goes", m.step(0, 1), 4);
            for (int k = 0; k < 4; k++) {
                DESK.due("the IMAGES stay", m.back(k), before.back(k));
            }
        }
    }

    private static void fault(Scene scene, String name, String text, int want) {
        MondayMaps m = scene.set();
        MondayMaps like = scene.set();
        Desk.say(m, text);
        DESK.due(scene + " " + name + " '" + text + "'", Scene.call(m, name), want);
        like.end(0);
        DESK.holds("but for the TAPE all stays", Scene.picture(m).equals(Scene.picture(like)));
    }

    /** Nothing of a text that was no RULE, or of the RULE before, is in the next one. */
    private static void rulesBehindFaults() {
        DESK.sentence("Promise 5: The TAPE, which is empty then, is a RULE: its number");
        String[] faulty = {"wait;go if 1=1 and", "aside;aside;aside;x", "wait if 1=1;wait if 1=1", "go if [[[[[[[[[[[", ""};
        for (String text : faulty) {
            MondayMaps m = Scene.HALF.set();
            boolean isRule = Desk.rule(m, text) >= 0;
            int number = isRule ? 3 : 2;
            DESK.due("behind '" + text + "'", Desk.rule(m, "ask if 1=2;go"), number);
            DESK.due("the TAPE is empty", m.count(11), 0);
            m.walker(2, 1, 1, number, 24 * 8 + 7);
            DESK.due("by it he goes", m.step(2, 1), 1);
            DESK.due("at once", m.about(2, 4), 24 * 8 + 10);
        }
        MondayMaps bare = Desk.at("corners 2;street 0 1 1 =======");
        bare.print(0);
        Desk.rule(bare, "wait if 1=2 and");
        DESK.due("behind a TEST that does not hold", Desk.rule(bare, "aside;wait"), 0);
        bare.walker(0, 1, 0, 0, 0);
        DESK.due("its first CLAUSE has none", bare.step(0, 1), 1);
        MondayMaps m = new MondayMaps();
        String sixty = "go if 1=1" + " and 1=1".repeat(19);
        for (int i = 0; i < 6; i++) {
            DESK.due("sixty VALUES and FACTS each", Desk.rule(m, sixty), i);
        }
        MondayMaps n = new MondayMaps();
        DESK.due("sixty, and a FAULT", Desk.rule(n, sixty + " or"), Desk.fault(sixty.length() + 3, 0));
        DESK.due("sixty", Desk.rule(n, sixty), 0);
        DESK.due("twelve CLAUSES, and a FAULT", Desk.rule(n, "go" + ";go".repeat(12)), Desk.fault(36, 4));
        DESK.due("twelve CLAUSES", Desk.rule(n, "go" + ";go".repeat(11)), 1);
    }

    /** Behind another TOWN, and behind one that was none, a TOWN is as on a new object. */
    private static void townsInPlace() {
        DESK.sentence("Promise 4: The TAPE, which is empty then, is the TOWN in place of the one there was");
        String[] towns = {"corners 4;street 0 1 2 <.>=.<>;street 2 1 1 >>>....;street 0 3 4 =======;street 3 2 5 <<<=...;saint 0 4",
            "corners 4;street 3 2 1 =======", "corners 4", "corners 2;street 1 0 9 ...=...;lift 0 5 9;saint 1 4"};
        String[] before = {"", "corners 1", "corners 4" + ";street 0 1 9 =======".repeat(12) + ";saint 0 3;lift 0 1 9;lift 3 0 24;",
            "corners 4;street 0 1 9 =======;street 0 2 9 =======;street 0 3 9 =======;lift 2 0 24;saint 3 4;saint 0 0"};
        for (String town : towns) {
            for (String other : before) {
                MondayMaps m = Scene.HALF.set();
                Desk.town(m, other);
                MondayMaps fresh = new MondayMaps();
                Desk.rule(fresh, "ask;go");
                Desk.rule(fresh, "aside if came=99;wait");
                fresh.seed(77);
                DESK.holds("'" + town + "' behind '" + other + "'", settled(m, town).equals(settled(fresh, town)));
            }
        }
    }

    private static List<Integer> settled(MondayMaps m, String town) {
        Desk.town(m, town);
        m.print(3);
        m.print(0);
        m.walker(1, 0, 0, 0, 70);
        m.walker(0, 1, 1, 1, 98);
        m.walker(1, 0, 1, NONE, 99);
        m.errand(1, 0);
        m.errand(0, 3);
        m.sight(0, 3);
        m.came(0);
        return Scene.view(m);
    }

    private static void neverMade() {
        DESK.sentence("Promise 33: NONE, and nothing happens, if it was never made");
        for (int k = 0; k < 4; k++) {
            refused(Scene.EMPTY, NONE, "back", k);
            refused(Scene.BARE, NONE, "back", k);
            if (k != 1) {
                refused(Scene.HALF, NONE, "back", k);
            }
        }
        MondayMaps m = Scene.HALF.set();
        DESK.due("the one that was", m.back(1), 2);
        DESK.due("three ERRANDS then", m.count(7), 3);
        DESK.sentence("Promise 32: An IMAGE is made: WALKERS");
        DESK.due("of nothing", Scene.EMPTY.set().image(3), 0);
        DESK.due("half", Scene.HALF.set().image(0), 2);
        DESK.due("full", Scene.FULL.set().image(0), 4);
        MondayMaps n = Scene.EMPTY.set();
        n.image(0);
        Desk.town(n, "corners 5");
        DESK.due("back to no TOWN", n.back(0), 0);
        DESK.due("no TOWN", n.count(0), 0);
        DESK.due("no TOWN", n.print(0), -2);
        DESK.due("no TOWN", n.wrong(7), NONE);
    }
}
