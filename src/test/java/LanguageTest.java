import java.lang.reflect.Constructor;
import java.lang.reflect.Field;
import java.lang.reflect.Method;
import java.lang.reflect.Modifier;
import java.nio.file.Files;
import java.nio.file.Path;
import java.util.Arrays;
import java.util.List;
import java.util.Set;
import java.util.TreeSet;
import java.util.regex.Matcher;
import java.util.regex.Pattern;

/** The face, and those rules of LANGUAGE.md that can be seen in the source or by reflection. */
public final class LanguageTest {
    private static final Desk DESK = new Desk("LanguageTest");
    private static final String FACE = "feed5 end1 town0 rule0 street2 open3 print1 misprint3 shown2 by4 walker5 about2"
        + " step2 soonest3 way4 comes3 round2 questions2 cheap1 wrong1 errand2 ways2 sight2 weekdays1 came1 had1 built3"
        + " seed1 strangers4 count1 image1 back1";

    public static void main(String[] args) throws Exception {
        face();
        classes();
        words(bare(Files.readString(Path.of("src/main/java/MondayMaps.java"))));
        methods(bare(Files.readString(Path.of("src/main/java/MondayMaps.java"))));
        neverThrows();
        DESK.close();
    }

    private static void face() {
        Set<String> seen = new TreeSet<>();
        Set<String> hidden = new TreeSet<>();
        for (Method m : MondayMaps.class.getDeclaredMethods()) {
            if (Modifier.isPublic(m.getModifiers())) {
                seen.add(m.getName() + m.getParameterCount());
                DESK.holds("all of int: " + m, m.getReturnType() == int.class
                    && Arrays.stream(m.getParameterTypes()).allMatch(t -> t == int.class)
                    && !Modifier.isStatic(m.getModifiers()));
            } else {
                DESK.holds("rule 1, private: " + m, Modifier.isPrivate(m.getModifiers()));
                hidden.add(m.getName());
            }
        }
        DESK.holds("the face's methods", seen.equals(new TreeSet<>(List.of(FACE.split(" ")))));
        for (String name : FACE.replaceAll("[0-9]", "").split(" ")) {
            DESK.holds("rule 1, no private " + name, !hidden.contains(name));
            for (Class<?> c : MondayMaps.class.getDeclaredClasses()) {
                DESK.holds("no " + name + " in " + c, Arrays.stream(c.getDeclaredMethods())
                    .noneMatch(m -> m.getName().equals(name)));
            }
        }
        Constructor<?>[] made = MondayMaps.class.getDeclaredConstructors();
        DESK.holds("one public constructor", made.length == 1 && Modifier.isPublic(made[0].getModifiers())
            && made[0].getParameterCount() == 0);
        DESK.holds("public and final", MondayMaps.class.getModifiers() == (Modifier.PUBLIC | Modifier.FINAL));
        for (Field f : MondayMaps.class.getDeclaredFields()) {
            DESK.holds("rule 1, private: " + f, Modifier.isPrivate(f.getModifiers()) || f.getName().equals("NONE"));
        }
    }

    private static void classes() {
        Class<?>[] inside = MondayMaps.class.getDeclaredClasses();
        DESK.holds("rule 11, some twelve classes", inside.length <= 12);
        for (Class<?> c : inside) {
            int mods = c.getModifiers();
            DESK.holds("rule 1, 2: " + c, Modifier.isStatic(mods) && !Modifier.isPublic(mods)
                && !Modifier.isProtected(mods) && c.getDeclaredClasses().length == 0);
            fields(c);
        }
        fields(MondayMaps.class);
    }

    private static void fields(Class<?> c) {
        int own = 0;
        for (Field f : c.getDeclaredFields()) {
            if (Modifier.isStatic(f.getModifiers())) {
                DESK.holds("rule 5: " + f, Modifier.isFinal(f.getModifiers())
                    && (f.getType().isPrimitive() || f.getType() == String.class));
            } else {
                own++;
            }
        }
        DESK.holds("rule 11, some twenty fields: " + c, own <= 20);
    }

    /** The source without comments, texts and signs. */
    private static String bare(String source) {
        return source.replaceAll("(?s)/\\*.*?\\*/", "").replaceAll("//[^\n]*", "")
            .replaceAll("\"[^\"\n]*\"", "\"\"").replaceAll("'[^'\n]+'", "' '");
    }

    private static void words(String source) {
        String[] never = {"throw", "throws", "try", "catch", "finally", "synchronized", "assert", "protected",
            "volatile", "transient", "native", "package", "Object", "System.out", "Random", "Thread", "equals",
            "hashCode", "toString", "Class"};
        for (String word : never) {
            DESK.holds("no " + word, !Pattern.compile("\\b" + Pattern.quote(word) + "\\b").matcher(source).find());
        }
        for (String sign : new String[] {"->", "::", "@", "Exact(", "static {"}) {
            DESK.holds("no " + sign, !source.contains(sign));
        }
        Matcher imports = Pattern.compile("import ([\\w.*]+);").matcher(source);
        while (imports.find()) {
            DESK.holds("import " + imports.group(1), List.of("java.util.Arrays", "java.util.ArrayList",
                "java.util.List").contains(imports.group(1)));
        }
        DESK.holds("signs 1 to 127 alone", source.chars().allMatch(c -> c < 128));
        Matcher calls = Pattern.compile("\\b(Math|Arrays|System|Integer|Long)\\.(\\w+)").matcher(source);
        while (calls.find()) {
            DESK.holds("rule 4, " + calls.group(), List.of("max", "min", "abs", "bitCount", "fill", "copyOf",
                "copyOfRange", "arraycopy", "compare", "floorMod", "floorDiv").contains(calls.group(2)));
        }
    }

    private static void methods(String source) {
        String[] lines = source.split("\n");
        Pattern head = Pattern.compile("^( {4}| {8})(?! )(?!.*\\b(class|return|new)\\b)[\\w\\[\\]<> ]+\\((.*)\\) \\{$");
        int found = 0;
        for (int i = 0; i < lines.length; i++) {
            Matcher m = head.matcher(lines[i]);
            if (!m.matches() || lines[i].matches("\\s*(if|for|while|switch)\\b.*")) {
                continue;
            }
            found++;
            int end = i;
            while (!lines[end].equals(m.group(1) + "}")) {
                end++;
            }
            DESK.holds("rule 11, short: " + lines[i].trim(), end - i <= 60);
            DESK.holds("rule 11, seven parameters: " + lines[i].trim(), m.group(3).split(",").length <= 7);
        }
        DESK.holds("methods are found", found > 100);
    }

    /** Rule 7: no arguments, in a new object or in a full town, make the machine throw. */
    private static void neverThrows() throws Exception {
        int[] odd = {Integer.MIN_VALUE, -100000, -2, -1, 0, 1, 2, 3, 9, 12, 13, 30, 100, 120, 200, 400, 99999, 100000,
            Integer.MAX_VALUE - 1, Integer.MAX_VALUE};
        long state = 1;
        for (int run = 0; run < 40; run++) {
            MondayMaps m = run % 2 == 0 ? new MondayMaps() : Desk.at("corners 4;street 0 1 2 >>>>>.=;"
                + "street 1 2 3 =======;street 0 2 9 <======;street 2 3 1 .><=.><;saint 1 3;lift 1 0 6");
            if (run % 2 == 1) {
                Desk.rule(m, "go if left*steps/asked<date*99999*99999*99999*99999;ask;aside if came=99");
                m.print(0);
                m.walker(0, 3, 0, 0, Integer.MAX_VALUE - run);
            }
            for (int i = 0; i < 400; i++) {
                for (Method method : MondayMaps.class.getDeclaredMethods()) {
                    state = state * 6364136223846793005L + 1442695040888963407L;
                    if (!Modifier.isPublic(method.getModifiers()) || (state >>> 40) % 32 != 0) {
                        continue;
                    }
                    Object[] args = new Object[method.getParameterCount()];
                    for (int j = 0; j < args.length; j++) {
                        state = state * 6364136223846793005L + 1442695040888963407L;
                        args[j] = odd[(int) ((state >>> 33) % odd.length)];
                    }
                    method.invoke(m, args);
                }
            }
        }
        DESK.holds("rule 7, nothing was thrown", true);
    }
}
