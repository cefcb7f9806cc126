/** The boundary cases that the document names of a RULE's text and its FAULTS, of WORDS and of sums. */
public final class RuleEdgeTest {
    private static final Desk DESK = new Desk("RuleEdgeTest");
    private static final int NONE = MondayMaps.NONE;
    /** Two to the 63rd, which is the least number of 64 bits. */
    private static final String LEAST = "32768*32768*32768*32768*8";

    public static void main(String[] args) {
        sixRules();
        clauses();
        tests();
        numbers();
        wordsEnd();
        hourDayDate();
        shutAndLeft();
        stepsAndAsked();
        came();
        division();
        round64();
        blanks();
        deep();
        sixty();
        firstFault();
        wrongByte();
        everyPrefix();
        tooManyDigits();
        ofOnePlace();
        DESK.close();
    }

    private static void good(String text) {
        DESK.due("'" + text + "'", Desk.rule(new MondayMaps(), text), 0);
    }

    private static void fault(String text, int place, int kind) {
        DESK.due("'" + text + "'", Desk.rule(new MondayMaps(), text), Desk.fault(place, kind));
    }

    /** Whether a walker from 0 to 1, by a street of three hours, goes by a test. */
    private static void holds(String test, int hour, boolean want) {
        MondayMaps m = Desk.at("corners 3;street 0 1 3 =======");
        m.print(0);
        DESK.due("'" + test + "' is read", Desk.rule(m, "go if " + test), 0);
        m.walker(0, 1, 0, 0, hour);
        DESK.due("'" + test + "' at " + hour, m.step(0, 1), want ? 1 : 0);
    }

    private static void sixRules() {
        DESK.sentence("RULES 0 to 5");
        MondayMaps m = Desk.at("corners 2;street 0 1 3 =======");
        m.print(0);
        for (int i = 0; i < 6; i++) {
            DESK.due("rule " + i, Desk.rule(m, "go if hour=" + i), i);
        }
        DESK.due("a seventh", Desk.rule(m, "go"), NONE);
        for (int i = 0; i < 4; i++) {
            m.walker(0, 1, 0, i + 2, 5);
            DESK.due("by rule " + (i + 2), m.step(i, 1), i == 3 ? 1 : 0);
        }
        DESK.sentence("texts likewise");
        good(Desk.padded("go", 400));
        fault(Desk.padded("go", 399) + "x", 399, 0);
        fault(Desk.padded("go;", 400), 400, 0);
    }

    private static void clauses() {
        DESK.sentence("12 CLAUSES at most: go [ if TEST ] | aside [ if TEST ] | ask [ if TEST ] | wait [ if TEST ]");
        good("go");
        good("aside");
        good("ask");
        good("wait");
        good("go if 1=1;aside if 1=1;ask if 1=1;wait if 1=1");
        String twelve = "go if 1=2;".repeat(11) + "go";
        good(twelve);
        fault(twelve + ";go", twelve.length() + 1, 4);
        fault(twelve + "; wait if", twelve.length() + 2, 4);
        fault("", 0, 0);
        fault(";go", 0, 0);
        fault("go;", 3, 0);
        fault("go;;go", 3, 0);
        MondayMaps m = Desk.at("corners 2;street 0 1 3 =======");
        m.print(0);
        Desk.rule(m, twelve);
        m.walker(0, 1, 0, 0, 0);
        DESK.due("the twelfth is done", m.step(0, 1), 1);
    }

    private static void tests() {
        DESK.sentence("TEST: PART { or PART }. PART: FACT { and FACT }");
        String[] truth = {"1=2", "1=1"};
        for (int bits = 0; bits < 16; bits++) {
            boolean a = (bits & 1) != 0;
            boolean b = (bits & 2) != 0;
            boolean c = (bits & 4) != 0;
            boolean d = (bits & 8) != 0;
            String[] f = {truth[bits & 1], truth[bits >> 1 & 1], truth[bits >> 2 & 1], truth[bits >> 3 & 1]};
            holds(f[0] + " or " + f[1] + " and " + f[2] + " or " + f[3], 0, a || b && c || d);
            holds(f[0] + " and " + f[1] + " or " + f[2] + " and " + f[3], 0, a && b || c && d);
            holds("[" + f[0] + " or " + f[1] + "] and [" + f[2] + " or " + f[3] + "]", 0, (a || b) && (c || d));
            holds("not " + f[0] + " and not [" + f[1] + " or not " + f[2] + "]", 0, !a && !(b || !c));
        }
        DESK.sentence("SUM SIGN SUM, SIGN one of < <= = >= >");
        for (int a = 4; a <= 6; a++) {
            holds(a + "<5", 0, a < 5);
            holds(a + "<=5", 0, a <= 5);
            holds(a + "=5", 0, a == 5);
            holds(a + ">=5", 0, a >= 5);
            holds(a + ">5", 0, a > 5);
        }
        signsTogether();
        DESK.sentence("SUM: TERM { (+ or -) TERM }. TERM: VALUE { (* or /) VALUE }");
        holds("9-3-2=4", 0, true);
        holds("9-3+2=8", 0, true);
        holds("2+3*4-5=9", 0, true);
        holds("2*3+4*5=26", 0, true);
        holds("60/5/3=4", 0, true);
        holds("60/5*3=36", 0, true);
        holds("5*7/2=17", 0, true);
        holds("1-2*3/4+5=5", 0, true);
        holds("4=2+1*2", 0, true);
    }

    /** A FACT holds or not, whatever its SIGN is. */
    private static void signsTogether() {
        String[] holding = {"4<5", "4<=5", "5=5", "6>=5", "6>5"};
        String[] failing = {"5<4", "5<=4", "5=4", "5>=6", "5>6"};
        for (int i = 0; i < 5; i++) {
            for (int j = 0; j < 5; j++) {
                holds(holding[i] + " and " + holding[j], 0, true);
                holds(holding[i] + " and not " + failing[j], 0, true);
                holds(holding[i] + " and " + failing[j], 0, false);
                holds(failing[i] + " or " + holding[j], 0, true);
                holds(failing[i] + " or not " + holding[j], 0, false);
            }
            holds("not " + holding[i], 0, false);
            holds("not not " + holding[i], 0, true);
        }
    }

    private static void numbers() {
        DESK.sentence("NUMBER (1 to 5 digits, as far as digits go on)");
        holds("0<1", 0, true);
        holds("99999=99998+1", 0, true);
        holds("00007=7", 0, true);
        fault("go if 100000=1", 6, 1);
        fault("go if 000001=1", 6, 1);
        fault("go if 1=1234567890123456789012", 8, 1);
        fault("go if 12345 6=1", 12, 0);
        holds("12=12and 1=1", 0, true);
    }

    private static void wordsEnd() {
        DESK.sentence("WORDS (small letters, as far as these go on)");
        for (String word : "hour day date corner goal shut left steps asked came".split(" ")) {
            good("go if " + word + "<" + word);
            fault("go if " + word + "s=1", 6, 0);
            fault("go if " + word.substring(1) + "=1", 6, 0);
            fault("go if " + word.toUpperCase() + "=1", 6, 0);
            fault("go if 1=" + word + word, 8, 0);
        }
        fault("goa", 0, 0);
        fault("goz", 0, 0);
        fault("go`", 2, 0);
        fault("go{", 2, 0);
        fault("goA", 2, 0);
        fault("goif 1=1", 0, 0);
        fault("go ifhour=1", 3, 0);
        fault("go if hour1=1", 10, 0);
        fault("go if hour=1 orhour=1", 13, 0);
        fault("go if nothour=1", 6, 0);
        good("go if1=1or2=2and[3=3]or not[4=4]");
    }

    private static void hourDayDate() {
        DESK.sentence("hour (mod 24)");
        holds("hour=0", 0, true);
        holds("hour=23", 23, true);
        holds("hour=0", 24, true);
        holds("hour=15", 99999, true);
        DESK.sentence("day (the weekday)");
        holds("day=0", 23, true);
        holds("day=1", 24, true);
        holds("day=6", 167, true);
        holds("day=0", 168, true);
        holds("day=1", 99999, true);
        DESK.sentence("date");
        holds("date=0", 23, true);
        holds("date=1", 24, true);
        holds("date=7", 168, true);
        holds("date=359", 360 * 24 - 1, true);
        holds("date=0", 360 * 24, true);
        holds("date=206", 99999, true);
    }

    private static void shutAndLeft() {
        String town = "corners 3;street 0 1 3 =======;street 1 2 4 =.=====;saint 1 2;lift 0 0 6";
        MondayMaps m = Desk.at(town);
        m.print(0);
        m.print(1);
        Desk.rule(m, "wait if shut=0 and left=7;ask if shut=1 and left=7;aside if shut=1 and left=0");
        DESK.sentence("shut (1 if the STREET by his MAP is not OPEN now, or there is none, else 0)");
        m.walker(0, 2, 0, 0, 6);
        DESK.due("it is OPEN", m.comes(0, 1, 2), 0);
        m.walker(0, 2, 0, 0, 5);
        DESK.due("it is LIFTED", m.comes(1, 1, 2), 1);
        m.walker(0, 2, 0, 0, 24 * 2 + 6);
        DESK.due("a SAINT", m.comes(2, 1, 2), 1);
        DESK.sentence("left (HOURS by his MAP; 0 if there is no way)");
        m.walker(0, 2, 1, 0, 6);
        DESK.due("no way: shut, though a STREET is OPEN", m.step(3, 1), 1);
        DESK.due("by which he went", m.about(3, 7), 0);
    }

    private static void stepsAndAsked() {
        MondayMaps m = Desk.at("corners 2;street 0 1 3 =======");
        m.print(0);
        Desk.rule(m, "wait if steps<3;ask if asked<2;go if steps>4 and asked>1");
        m.walker(0, 1, 0, 0, 0);
        DESK.sentence("steps (that he did)");
        DESK.due("three waits", m.comes(0, 3, 2), 0);
        DESK.due("the fourth", m.comes(0, 4, 2), 1);
        DESK.sentence("asked (how often)");
        DESK.due("twice, on two DAYS", m.comes(0, 400, 2), 2);
        DESK.due("0 to 2 he waits, 3 he asks, 24 he asks, 25 he goes", m.comes(0, 400, 0), 28);
        DESK.due("in so many STEPS", m.comes(0, 400, 1), 26);
    }

    private static void came() {
        DESK.sentence("came (the CORNER he came from last; 99 none)");
        MondayMaps m = Desk.at("corners 4;street 0 1 1 =======;street 1 2 1 =======;street 2 3 1 .......");
        m.print(0);
        Desk.rule(m, "wait if came=99 and steps=0;aside if came=99;wait if came=0 and steps=2;go if came=0;aside");
        m.walker(0, 2, 0, 0, 0);
        DESK.due("none: he waits", m.step(0, 1), 0);
        DESK.due("still none", m.about(0, 7), NONE);
        DESK.due("aside", m.step(0, 1), 1);
        DESK.due("he waits, which leaves it", m.step(0, 1), 1);
        DESK.due("from 0", m.about(0, 7), 0);
        DESK.due("by 0 he goes on", m.step(0, 1), 2);
        DESK.due("from 1 now", m.about(0, 7), 1);
    }

    private static void division() {
        DESK.sentence("/ is towards 0");
        holds("7/2=3", 0, true);
        holds("1/2=0", 0, true);
        // The least number by 3 has a rest of 2 towards 0.
        holds(LEAST + "/3*3=" + LEAST + "+2", 0, true);
        DESK.sentence("0 by 0");
        holds("5/0=0", 0, true);
        holds("0/0=0", 0, true);
        holds("5/hour=0", 24, true);
        holds("5/hour*7+1=1", 0, true);
        holds(LEAST + "/0=0", 0, true);
    }

    private static void round64() {
        DESK.sentence("all goes round in 64 bits");
        holds(LEAST + "<0", 0, true);
        holds(LEAST + "*2=0", 0, true);
        holds(LEAST + "-1>0", 0, true);
        holds(LEAST + "-1+1=" + LEAST, 0, true);
        holds("0-" + LEAST + "=" + LEAST, 0, true);
        holds("32768*32768*32768*32768*4>0", 0, true);
        // More than 32 bits do not go round.
        holds("65536*65536>0", 0, true);
        holds("65536*32768>65536*32768-1", 0, true);
        holds("99999*99999-99998*99998=99999+99998", 0, true);
    }

    private static void blanks() {
        DESK.sentence("Blanks (32) stand between as one likes");
        good("  go  if  not  [  hour  <=  5  +  2  ]  and  1  =  1  ;  wait  ");
        good("go if not[hour<=5+2]and 1=1;wait");
        fault("go if hour< =5", 12, 0);
        fault("go if 1 2=12", 8, 0);
        fault("go if ho ur=12", 6, 0);
        fault("go\tif 1=1", 2, 0);
        fault("go if 1=1\n", 9, 0);
    }

    private static void deep() {
        DESK.sentence("[ and not lie within one another 10 deep at most .. 2 too deep (at the sign that opens, or the word not)");
        good("go if " + "[".repeat(10) + "1=1" + "]".repeat(10));
        fault("go if " + "[".repeat(11) + "1=1" + "]".repeat(11), 16, 2);
        good("go if " + "not ".repeat(10) + "1=1");
        fault("go if " + "not ".repeat(11) + "1=1", 46, 2);
        good("go if " + "not[".repeat(5) + "1=1" + "]".repeat(5));
        fault("go if " + "not[".repeat(5) + "not 1=1" + "]".repeat(5), 26, 2);
        fault("go if " + "not[".repeat(5) + " [1=1]" + "]".repeat(5), 27, 2);
        fault("go if " + "[".repeat(11), 16, 2);
        fault("go if " + "not ".repeat(10) + "not", 46, 2);
        String ten = "[".repeat(10) + "1=1" + "]".repeat(10);
        good("go if " + ten + " and " + ten + " or not " + "not ".repeat(9) + "2=1;ask if " + ten);
        good("go if [" + "[".repeat(9) + "1=1" + "]".repeat(9) + " or " + "not ".repeat(9) + "1=1]");
        fault("go if [1=1 or " + "not ".repeat(10) + "1=1]", 6 + 8 + 36, 2);
        holds("not ".repeat(9) + "1=2", 0, true);
        holds("not ".repeat(10) + "1=2", 0, false);
    }

    private static void sixty() {
        DESK.sentence("at most 60 VALUES and FACTS made of a SIGN, together");
        String twenty = "1=1" + " and 1=1".repeat(19);
        holds(twenty, 0, true);
        String ten = "1=1" + " and 1=1".repeat(9);
        good("go if " + ten + ";wait if " + ten);
        good("go if " + ten + ";wait if " + ten + ";ask;aside");
        holds("1" + "+1".repeat(57) + "=58", 0, true);
        DESK.sentence("3 one VALUE or FACT too many (at its first byte; of a FACT at its SIGN)");
        fault("go if " + twenty + " or hour=1", 6 + twenty.length() + 4, 3);
        fault("go if " + twenty + ";go if   12=1", 6 + twenty.length() + 9, 3);
        fault("go if " + ten + ";go if " + ten + ";go if 1=1", 6 + 2 * ten.length() + 14, 3);
        String values = "1" + "+1".repeat(57);
        fault("go if " + values + "=1+ 77777", 6 + values.length() + 4, 3);
        fault("go if " + values + "+1= hour", 6 + values.length() + 4, 3);
        fault("go if " + values + "+1+1  <= 1", 6 + values.length() + 6, 3);
        fault("go if " + values + "+1+1+left", 6 + values.length() + 5, 3);
        good("go if not[[" + twenty + "]]");
    }

    private static void firstFault() {
        DESK.sentence("FAULTS, the first along the text, 1 + 8 * its place and");
        DESK.due("place 5, kind 0", Desk.rule(new MondayMaps(), "go if"), -43);
        DESK.due("place 6, kind 1", Desk.rule(new MondayMaps(), "go if 123456"), -52);
        DESK.due("place 16, kind 2", Desk.rule(new MondayMaps(), "go if [[[[[[[[[[["), -133);
        fault("go if x=1;stay", 6, 0);
        fault("go if 123456=x", 6, 1);
        fault("go;stay;go if x", 3, 0);
    }

    private static void wrongByte() {
        DESK.sentence("0 a byte or WORD that can't stand there");
        fault("Go", 0, 0);
        fault("waits", 0, 0);
        fault("corners 2", 0, 0);
        fault("go 1", 3, 0);
        fault("go1", 2, 0);
        fault("go go", 3, 0);
        fault("go if if", 6, 0);
        fault("go if and", 6, 0);
        fault("go if or 1=1", 6, 0);
        fault("go if ]", 6, 0);
        fault("go if [", 7, 0);
        fault("go if []", 7, 0);
        fault("go if -1<2", 6, 0);
        fault("go if 1+-1<2", 8, 0);
        fault("go if 1**1<2", 8, 0);
        fault("go if (1=1)", 6, 0);
        fault("go if 1<>2", 8, 0);
        fault("go if 1=<2", 8, 0);
        fault("go if 1==2", 8, 0);
        fault("go if 1>==2", 9, 0);
        fault("go if 1!=2", 7, 0);
        fault("go if 1=1=1", 9, 0);
        fault("go if 1=1]", 9, 0);
        fault("go if [1=1]]", 11, 0);
        fault("go if [1=1]=1", 11, 0);
        fault("go if [1]=1", 8, 0);
        fault("go if not 1", 11, 0);
        fault("go if not=1", 9, 0);
        fault("go if 1 and 1=1", 8, 0);
        fault("go if 1=1 and or 1=1", 14, 0);
        fault("go if 1=1 if 1=1", 10, 0);
        fault("go if 1=1\0", 9, 0);
        fault("go" + (char) 255, 2, 0);
    }

    private static void everyPrefix() {
        DESK.sentence("or the end (behind the last byte");
        String whole = "ask if not [hour<=5 or day>2] and 7=left;go";
        int[] words = {0, 3, 4, 6, 7, 10, 12, 16, 20, 22, 23, 26, 30, 33, 36, 40, 41, 43};
        for (int cut = 0; cut <= whole.length(); cut++) {
            String text = whole.substring(0, cut);
            if (cut == 3 || cut == 4 || cut == 29 || cut == 30 || cut == 40 || cut == whole.length()) {
                good(text);
                continue;
            }
            int place = cut;
            for (int i = 0; i < words.length; i += 2) {
                place = cut > words[i] && cut < words[i + 1] ? words[i] : place;
            }
            fault(text, place, 0);
        }
        fault("go if 1=  ", 10, 0);
        fault("   ", 3, 0);
    }

    private static void tooManyDigits() {
        DESK.sentence("1 a NUMBER of more digits");
        fault("go if 1=  123456", 10, 1);
        fault("go if 1+2*123456=1", 10, 1);
        fault("go if [not 000000=1]", 11, 1);
    }

    private static void ofOnePlace() {
        DESK.sentence("Of one place the least");
        String twelve = "go" + ";go".repeat(11);
        fault(twelve + ";stay", twelve.length() + 1, 0);
        fault(twelve + ";", twelve.length() + 1, 0);
        fault(twelve + ";7", twelve.length() + 1, 0);
        String twenty = "1=1" + " and 1=1".repeat(19);
        fault("go if " + twenty + " or x=1", 6 + twenty.length() + 4, 0);
        fault("go if " + twenty + " or 123456=1", 6 + twenty.length() + 4, 1);
        String values = "1" + "+1".repeat(59);
        fault("go if " + values + " ?", 6 + values.length() + 1, 0);
        fault("go if " + values, 6 + values.length(), 0);
    }
}
