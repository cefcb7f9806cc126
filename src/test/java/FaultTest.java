/** The FAULTS of a TOWN and of a RULE: their place and kind. */
public final class FaultTest {
    private static final Desk DESK = new Desk("FaultTest");

    public static void main(String[] args) {
        townWords();
        townNumbers();
        townSigns();
        townClauses();
        townBlanks();
        ruleWords();
        ruleNumbers();
        ruleDepth();
        ruleItems();
        ruleClauses();
        DESK.close();
    }

    private static void town(String text, int place, int kind) {
        DESK.due("town '" + text + "'", Desk.town(new MondayMaps(), text), Desk.fault(place, kind));
    }

    private static void goodTown(String text, int streets) {
        DESK.due("town '" + text + "'", Desk.town(new MondayMaps(), text), streets);
    }

    private static void rule(String text, int place, int kind) {
        DESK.due("rule '" + text + "'", Desk.rule(new MondayMaps(), text), Desk.fault(place, kind));
    }

    private static void goodRule(String text) {
        DESK.due("rule '" + text + "'", Desk.rule(new MondayMaps(), text), 0);
    }

    private static void townWords() {
        town("", 0, 0);
        town("   ", 3, 0);
        town("corners", 7, 0);
        town("corners  ", 9, 0);
        town("cornerss 2", 0, 0);
        town("Corners 2", 0, 0);
        town("corner 2", 0, 0);
        town(";", 0, 0);
        town("5", 0, 0);
        town("corners x", 8, 0);
        town("corners -2", 8, 0);
        town("corners 2 2", 10, 0);
        town("corners 2x", 9, 0);
        town("corners 2;", 10, 0);
        town("corners 2; ", 11, 0);
        town("corners 2;;", 10, 0);
        town("corners 2;go", 10, 0);
        town("corners 2;saints 0 0", 10, 0);
        town("corners\t2", 7, 0);
        town("corners 2\0", 9, 0);
        town("corners 2;saint 0", 17, 0);
        town("corners 2;saint 0;", 17, 0);
        town("corners " + (char) 233, 8, 0);
    }

    private static void townNumbers() {
        town("corners 1", 8, 1);
        town("corners 0", 8, 1);
        town("corners 11", 8, 1);
        town("corners 000002", 8, 1);
        town("corners 9999999999999999999999", 8, 1);
        goodTown("corners 00002", 0);
        goodTown("corners 10", 0);
        town("corners 2;street 2 1 1 .......", 17, 1);
        town("corners 2;street 0 2 1 .......", 19, 1);
        town("corners 2;street 0 0 1 .......", 19, 1);
        town("corners 2;street 0  0 1 .......", 20, 1);
        town("corners 2;street 0 1 0 .......", 21, 1);
        town("corners 2;street 0 1 10 .......", 21, 1);
        town("corners 2;street 01 1 1 .......", 20, 1);
        town("corners 2;saint 2 0", 16, 1);
        town("corners 2;saint 0 360", 18, 1);
        goodTown("corners 2;saint 0 359;saint 1 0;saint 0 359", 0);
        town("corners 2;lift 0 1 2", 15, 1);
        town("corners 2;street 0 1 1 =======;lift 1 5 6", 36, 1);
        town("corners 2;street 0 1 1 =======;lift 0 24 25", 38, 1);
        town("corners 2;street 0 1 1 =======;lift 0 5 5", 40, 1);
        town("corners 2;street 0 1 1 =======;lift 0 5 4", 40, 1);
        town("corners 2;street 0 1 1 =======;lift 0 0 0", 40, 1);
        town("corners 2;street 0 1 1 =======;lift 0 5 25", 40, 1);
        goodTown("corners 2;street 0 1 1 =======;lift 0 0 24;lift 0 23 24", 1);
    }

    private static void townSigns() {
        town("corners 2;street 0 1 1", 22, 0);
        town("corners 2;street 0 1 1 ", 23, 0);
        town("corners 2;street 0 1 1 ......", 29, 0);
        town("corners 2;street 0 1 1 ......;", 29, 0);
        town("corners 2;street 0 1 1 ...x...", 26, 0);
        town("corners 2;street 0 1 1 ... ....", 26, 0);
        town("corners 2;street 0 1 1 ........", 30, 0);
        town("corners 2;street 0 1 1 .......1", 30, 0);
        goodTown("corners 2;street 0 1 1.><=.><;street 1 0 9   ======= ", 2);
    }

    private static void townClauses() {
        town("street 0 1 1 .......", 0, 4);
        town(" saint 0 0;corners 2", 1, 4);
        town("lift", 0, 4);
        town("corners 2;corners 2", 10, 4);
        town("corners 2; corners", 11, 4);
        StringBuilder s = new StringBuilder("corners 2");
        for (int i = 0; i < 12; i++) {
            s.append(";street 0 1 1 .......");
        }
        goodTown(s.toString(), 12);
        town(s + ";street 0 1 1 .......", s.length() + 1, 4);
        town(s + ";streets", s.length() + 1, 0);
        StringBuilder saints = new StringBuilder("corners 2");
        for (int i = 0; i < 8; i++) {
            saints.append(";saint 0 1");
        }
        goodTown(saints.toString(), 0);
        town(saints + ";saint", saints.length() + 1, 4);
        StringBuilder lifts = new StringBuilder("corners 2;street 0 1 1 =======");
        for (int i = 0; i < 4; i++) {
            lifts.append(";lift 0 1 2");
        }
        goodTown(lifts.toString(), 1);
        town(lifts + ";lift 0 1 2", lifts.length() + 1, 4);
    }

    private static void townBlanks() {
        goodTown("  corners2  ;street0 1 1=======;saint1 5;lift0 1 2  ", 1);
        goodTown("corners 2 ; street 1 0 9 =======", 1);
    }

    private static void ruleWords() {
        rule("", 0, 0);
        rule("go if", 5, 0);
        rule("go 1", 3, 0);
        rule("ask;", 4, 0);
        rule("waits", 0, 0);
        rule("goif 1=1", 0, 0);
        rule("corners 2", 0, 0);
        rule("aside if x", 9, 0);
        rule("go if left", 10, 0);
        rule("go if left = ", 13, 0);
        rule("go if left = 1]", 14, 0);
        rule("go if left = 1 2", 15, 0);
        rule("go if left = 1 = 2", 15, 0);
        rule("go if left < = 1", 13, 0);
        rule("go if left => 1", 12, 0);
        rule("go if left =< 1", 12, 0);
        rule("go if (left = 1)", 6, 0);
        rule("go if -1 < left", 6, 0);
        rule("go if 1 + = left", 10, 0);
        rule("go if 1 < left and", 18, 0);
        rule("go if 1 < left andy = 2", 15, 0);
        rule("go if 1 < left or;", 17, 0);
        rule("go if [1 < left", 15, 0);
        rule("go if [1 < left;", 15, 0);
        rule("go if []", 7, 0);
        rule("go if not", 9, 0);
        rule("go if notx = 1", 6, 0);
        rule("go if left", 10, 0);
        rule("go if left and shut = 1", 11, 0);
        rule("go if [left] = 1", 11, 0);
        rule("go if if", 6, 0);
        rule("go of 1=1", 3, 0);
        rule("go if 1=1 ar 1=1", 10, 0);
        rule("go if 1=1 end 1=1", 10, 0);
        rule("go if dot 1=1", 6, 0);
        goodRule("go");
        goodRule(" wait ; ask;aside if left=1;go if[not[hour<5]or day>=3 and 7<=date]");
        goodRule("go if 1<left and not shut=1or corner=2and goal>2*hour+3-came/asked-steps");
    }

    private static void ruleNumbers() {
        goodRule("go if 99999 = 00000");
        rule("go if 100000 = 1", 6, 1);
        rule("go if 1 = 000000", 10, 1);
        rule("go if 1 = 2*123456", 12, 1);
    }

    private static void ruleDepth() {
        String tenNots = "not ".repeat(10);
        goodRule("go if " + tenNots + "1=1");
        rule("go if " + tenNots + "not 1=1", 46, 2);
        rule("go if " + tenNots + "[1=1]", 46, 2);
        goodRule("go if " + "[".repeat(10) + "1=1" + "]".repeat(10));
        rule("go if " + "[".repeat(11) + "1=1" + "]".repeat(11), 16, 2);
        rule("go if " + "[".repeat(10) + " not 1=1" + "]".repeat(10), 17, 2);
        goodRule("go if " + "[not ".repeat(5) + "1=1" + "]".repeat(5) + " and " + tenNots + "1=1");
        rule("go if " + "[not ".repeat(5) + "[1=1" + "]".repeat(6), 31, 2);
    }

    /** Sixty VALUES and FACTS made of a SIGN: three to each "1=1". */
    private static void ruleItems() {
        String twenty = "1=1" + " or 1=1".repeat(19);
        goodRule("go if " + twenty);
        rule("go if " + twenty + " or 1=1", 6 + twenty.length() + 4, 3);
        rule("go if " + twenty + ";go if 1=1", 6 + twenty.length() + 7, 3);
        rule("go if " + twenty + " or x=1", 6 + twenty.length() + 4, 0);
        rule("go if " + twenty + " or 123456=1", 6 + twenty.length() + 4, 1);
        goodRule("go if " + twenty + ";wait");
        String fiftyNine = "1" + "+1".repeat(56) + "=1";
        goodRule("go if " + fiftyNine.replaceFirst("1", "1+1"));
        rule("go if " + fiftyNine + "+1+1", 6 + fiftyNine.length() + 3, 3);
        String sixty = "1" + "+1".repeat(59);
        rule("go if " + sixty + " =1", 6 + sixty.length() + 1, 3);
        rule("go if " + sixty + " ?1", 6 + sixty.length() + 1, 0);
    }

    private static void ruleClauses() {
        String twelve = "go" + ";ask".repeat(11);
        goodRule(twelve);
        rule(twelve + "; wait", twelve.length() + 2, 4);
        rule(twelve + ";", twelve.length() + 1, 0);
        rule(twelve + ";stay", twelve.length() + 1, 0);
    }
}
