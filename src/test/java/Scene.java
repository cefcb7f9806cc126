import java.lang.reflect.Method;
import java.util.ArrayList;
import java.util.Arrays;
import java.util.HashMap;
import java.util.List;
import java.util.Map;

/** States that objects are brought to, and a picture of all that later calls answer, to set two objects side by side. */
enum Scene {
    /** No TOWN; a text on the TAPE. */
    EMPTY,
    /** A TOWN with neither STREETS nor anything told. */
    BARE,
    /** Some of everything, nothing at its limit; an IMAGE of it. */
    HALF,
    /** As many of everything as there may be, but STREETS. */
    FULL;

    private static final Map<String, Method> METHODS = new HashMap<>();
    private static final String TOWN = "corners 4;street 0 1 2 >>>>>.=;street 1 2 3 =======;street 0 2 9 <======;"
        + "street 2 3 1 =><=.><;saint 1 3;lift 1 0 6";
    /** Every object is used for at most so many calls. */
    static final int MOST_CALLS = 512;
    /** More than any scene needs. */
    static final int SETTING_CALLS = 150;

    static {
        for (Method m : MondayMaps.class.getDeclaredMethods()) {
            METHODS.put(m.getName(), m);
        }
    }

    static int call(MondayMaps m, String name, int... args) {
        try {
            return (Integer) METHODS.get(name).invoke(m, Arrays.stream(args).boxed().toArray());
        } catch (ReflectiveOperationException e) {
            throw new IllegalStateException(name + Arrays.toString(args), e);
        }
    }

    MondayMaps set() {
        MondayMaps m = new MondayMaps();
        switch (this) {
            case BARE -> Desk.town(m, "corners 4");
            case HALF -> setHalf(m);
            case FULL -> setFull(m);
            default -> m.seed(5);
        }
        String text = "corners 6;street 4 5 6 .><=.><;saint 5 5";
        Desk.say(m, this == FULL ? Desk.padded(text, 400) : text);
        return m;
    }

    private static void setHalf(MondayMaps m) {
        Desk.rule(m, "ask;go");
        Desk.rule(m, "aside if came=99;wait");
        Desk.town(m, TOWN);
        m.print(1);
        m.print(0);
        m.misprint(0, 1, 1);
        m.walker(0, 3, 0, 0, 30);
        m.step(0, 2);
        m.walker(1, 3, 1, 1, 7);
        m.step(1, 2);
        m.errand(0, 3);
        m.errand(3, 1);
        m.errand(2, 0);
        m.sight(1, 3);
        m.sight(0, 1);
        m.came(2);
        m.came(3);
        m.seed(77);
        m.image(1);
        m.step(0, 1);
        m.errand(1, 2);
    }

    private static void setFull(MondayMaps m) {
        setHalf(m);
        for (int i = 2; i < 6; i++) {
            Desk.rule(m, "go if hour>" + i + ";ask if asked<" + i + ";wait if steps<" + i + ";aside");
        }
        m.image(0);
        m.print(6);
        m.print(5);
        m.misprint(3, 3, 0);
        m.walker(2, 0, 2, 2, 100);
        m.walker(3, 0, 3, 5, 99999);
        m.step(2, 3);
        m.image(2);
        for (int i = m.count(7); i < 6; i++) {
            m.errand(i % 4, (i + 1) % 4);
        }
        for (int i = m.count(8); i < 12; i++) {
            m.sight(1, 3);
        }
        for (int i = m.count(9); i < 8; i++) {
            m.came(i % 2 == 0 ? 1 : 2);
        }
        m.seed(Integer.MAX_VALUE);
        m.image(3);
        m.misprint(2, 0, 1);
    }

    /** What some 240 calls answer: on all that there is, on what is done next, on the TAPE, on the IMAGES. */
    static List<Integer> picture(MondayMaps m) {
        List<Integer> p = view(m);
        for (int w = 0; w < 4; w++) {
            p.add(m.step(w, 3));
            p.add(m.about(w, 4));
        }
        p.add(m.town());
        for (int what = 0; what < 4; what++) {
            p.add(m.count(what));
        }
        for (int k = 0; k < 4; k++) {
            p.add(m.back(k));
            for (int what = 4; what < 11; what++) {
                p.add(m.count(what));
            }
            p.addAll(List.of(m.about(0, 0), m.about(0, 4), m.shown(0, 1), m.had(0), m.ways(0, 1), m.weekdays(0)));
        }
        return p;
    }

    /** What is there now, but for the IMAGES and the text on the TAPE; nothing changes by it. */
    static List<Integer> view(MondayMaps m) {
        List<Integer> p = new ArrayList<>();
        look(m, p);
        lookAtMapsAndWalkers(m, p);
        ask(m, p);
        return p;
    }

    private static void look(MondayMaps m, List<Integer> p) {
        for (int what = 0; what < 12; what++) {
            p.add(m.count(what));
        }
        for (int street = 0; street < 4; street++) {
            for (int what = 0; what < 10; what++) {
                p.add(m.street(street, what));
            }
            for (int corner = 0; corner < 4; corner++) {
                p.add(m.open(street, corner, 75));
                p.add(m.open(street, corner, 100));
            }
            p.add(m.cheap(street));
        }
    }

    private static void lookAtMapsAndWalkers(MondayMaps m, List<Integer> p) {
        for (int map = 0; map < 4; map++) {
            for (int street = 0; street < 4; street++) {
                p.add(m.shown(map, street));
            }
            p.addAll(List.of(m.by(map, 0, 3, 0), m.by(map, 0, 3, 1), m.by(map, 3, 1, 0), m.by(map, 3, 1, 1)));
        }
        for (int w = 0; w < 4; w++) {
            for (int what = 0; what < 8; what++) {
                p.add(m.about(w, what));
            }
            p.addAll(List.of(m.comes(w, 50, 0), m.comes(w, 50, 2), m.round(w, 0), m.questions(w, 60), m.had(w)));
        }
    }

    private static void ask(MondayMaps m, List<Integer> p) {
        p.addAll(List.of(m.soonest(0, 3, 70), m.soonest(3, 0, 5), m.way(0, 3, 70, 0), m.way(3, 0, 5, 1), m.wrong(7)));
        p.addAll(List.of(m.ways(0, 0), m.ways(0, 1), m.ways(4, 0), m.ways(4, 1), m.weekdays(0), m.weekdays(1)));
        p.addAll(List.of(m.built(2, 50, 0), m.built(2, 50, 1), m.built(2, 50, 2)));
        p.addAll(List.of(m.strangers(-1, 9, 40, 1), m.strangers(0, 9, 40, 1), m.strangers(1, 9, 40, 1)));
    }
}
