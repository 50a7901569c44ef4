import java.lang.reflect.Array;
import java.lang.reflect.Field;
import java.lang.reflect.Method;
import java.lang.reflect.Modifier;
import java.nio.file.Files;
import java.nio.file.Path;
import java.util.ArrayList;
import java.util.Arrays;
import java.util.Collections;
import java.util.HashMap;
import java.util.IdentityHashMap;
import java.util.List;
import java.util.Map;
import java.util.Set;
import java.util.TreeSet;
import java.util.regex.Matcher;
import java.util.regex.Pattern;

/** The face, and what of ../shared/LANGUAGE.md can be seen from the source and the objects. */
public final class LanguageTest {
    private static final String FACE = "back() begun(int) count(int) down(int) fall(int) fault() fewest() free(int) "
            + "head(int,int) joint(int,int) keep() lay() load(int,int) looked(int,int) may(int,int) move(int,int) "
            + "noFilm() noWay(int) picture(int,int,int,int) pushed(int,int,int,int) run(int,int) saved(int) "
            + "soon(int,int) spun(int) times(int,int) turn(int,int,int,int) wipe() worth(int,int) write(int,long)";
    private static final Pattern METHOD = Pattern.compile(
            "^ +(?:(?:public|private|static) )*(?:int|long|boolean|void)(?:\\[\\])? (\\w+)\\((.*)\\) \\{$");
    private static int wrong = 0;

    public static void main(String[] args) throws Exception {
        Path source = Path.of(System.getProperty("source", "src/main/java/CatThatTurns.java"));
        List<String> lines = Files.readAllLines(source);
        theFace();
        theWords(lines);
        theMethods(lines);
        theClasses();
        theRoom();
        System.out.println(wrong + " faults against the language");
        System.exit(wrong == 0 ? 0 : 1);
    }

    private static void hold(boolean holds, String what) {
        if (!holds) {
            wrong++;
            System.out.println(what);
        }
    }

    private static void theFace() {
        Set<String> found = new TreeSet<>();
        Set<String> names = new TreeSet<>();
        Set<String> hidden = new TreeSet<>();
        for (Method m : CatThatTurns.class.getDeclaredMethods()) {
            StringBuilder face = new StringBuilder(m.getName()).append('(');
            for (Class<?> type : m.getParameterTypes()) {
                face.append(face.charAt(face.length() - 1) == '(' ? "" : ",").append(type.getName());
            }
            if (Modifier.isPublic(m.getModifiers())) {
                found.add(face.append(')').toString());
                names.add(m.getName());
                hold(m.getReturnType() == int.class, m + " answers no int");
            } else {
                hold(Modifier.isPrivate(m.getModifiers()), m + " is neither public nor private");
                hidden.add(m.getName());
            }
        }
        hold(found.equals(new TreeSet<>(Arrays.asList(FACE.split(" ")))), "the face is " + found);
        for (Class<?> c : CatThatTurns.class.getDeclaredClasses()) {
            hold(Modifier.isStatic(c.getModifiers()), c + " is not static");
            for (Method m : c.getDeclaredMethods()) {
                hidden.add(m.getName());
            }
        }
        hidden.retainAll(names);
        hold(hidden.isEmpty(), "named as public ones: " + hidden);
        hold(CatThatTurns.BAD == -1 && CatThatTurns.NO == -2 && CatThatTurns.FULL == -3 && CatThatTurns.NONE == -4,
                "the constants");
    }

    private static void theWords(List<String> lines) {
        Pattern banned = Pattern.compile("\\b(throws?|try|catch|finally|synchronized|assert|instanceof|double|float"
                + "|protected|System|Random|Thread|equals|hashCode|toString|\\w+Exact)\\b|->|::|@");
        for (String line : lines) {
            String code = line.replaceFirst("^ *(/\\*\\*|\\*|//).*", "");
            hold(!banned.matcher(code).find(), "not in the language: " + line);
            hold(!code.startsWith("import") || code.equals("import java.util.Arrays;"), line);
            hold(line.chars().allMatch(c -> c < 127), "a sign beyond 126: " + line);
            hold(!code.matches(" *static .*=.*") && !code.matches(".*private static (?!final|class)[\\w\\[\\]]+ \\w+( =.*)?;"),
                    "static state: " + line);
        }
    }

    private static void theMethods(List<String> lines) {
        Map<String, String> bodies = new HashMap<>();
        for (int i = 0; i < lines.size(); i++) {
            Matcher m = METHOD.matcher(lines.get(i));
            if (m.matches()) {
                String end = lines.get(i).replaceFirst("\\S.*", "") + "}";
                StringBuilder body = new StringBuilder();
                int j = i + 1;
                while (!lines.get(j).equals(end)) {
                    body.append(lines.get(j)).append('\n');
                    j++;
                }
                hold(j - i <= 60, m.group(1) + " has " + (j - i) + " lines");
                hold(m.group(2).split(",").length <= 7, m.group(1) + " has too many parameters");
                hold(bodies.put(m.group(1), body.toString()) == null, "twice named: " + m.group(1));
            }
        }
        for (String name : bodies.keySet()) {
            List<String> deepest = deepest(bodies, name, new ArrayList<>());
            hold(deepest.size() <= 8, "too deep: " + deepest);
        }
    }

    /** The longest chain of calls from a method; calls are told by names, library's included. */
    private static List<String> deepest(Map<String, String> bodies, String name, List<String> above) {
        List<String> best = List.of(name);
        if (above.contains(name)) {
            hold(false, "recursion: " + above);
            return best;
        }
        List<String> with = new ArrayList<>(above);
        with.add(name);
        Matcher m = Pattern.compile("(\\w+)\\(").matcher(bodies.getOrDefault(name, ""));
        while (m.find()) {
            if (!Set.of("if", "for", "while", "switch", "return").contains(m.group(1))) {
                List<String> below = deepest(bodies, m.group(1), with);
                if (below.size() + 1 > best.size()) {
                    best = new ArrayList<>(List.of(name));
                    best.addAll(below);
                }
            }
        }
        return best;
    }

    private static void theClasses() {
        List<Class<?>> all = new ArrayList<>(List.of(CatThatTurns.class.getDeclaredClasses()));
        all.add(CatThatTurns.class);
        hold(all.size() <= 12, all.size() + " classes");
        for (Class<?> c : all) {
            int fields = 0;
            for (Field f : c.getDeclaredFields()) {
                boolean isStatic = Modifier.isStatic(f.getModifiers());
                fields += isStatic ? 0 : 1;
                hold(!isStatic || Modifier.isFinal(f.getModifiers()), "static and not final: " + f);
            }
            hold(fields <= 20, c + " has " + fields + " fields");
        }
    }

    /** What an object holds when it has been asked all that is dear stays far below the room. */
    private static void theRoom() throws Exception {
        CatThatTurns cat = new CatThatTurns();
        for (String text : new String[] {"p9,8,7;p1,2,3;w30;e0;", "p20,24,40;p8,10,30;p18,24,44;j31;w30;l1;e0;",
            "p20,24,40;p8,10,30;p18,24,44;w30;j31;l1;e0;", "p20,24,40;p8,10,30;p18,24,44;w120;j31;l1;e0;"}) {
            Checks.put(cat, text);
            cat.lay();
            cat.saved(100000);
            for (int turn = 0; turn < 360; turn += 5) {
                cat.soon(turn, -1);
                cat.worth(0, turn);
                cat.worth(cat.count(0) - 2, turn);
            }
        }
        long[] room = new long[2];
        weigh(cat, room, Collections.newSetFromMap(new IdentityHashMap<>()));
        System.out.println("an object in full use: " + room[0] + " objects, " + room[1] + " fields and elements");
        hold(room[0] < 100 && room[1] < 1_000_000, "too much room");
    }

    private static void weigh(Object o, long[] room, Set<Object> seen) throws Exception {
        if (o == null || !seen.add(o)) {
            return;
        }
        room[0]++;
        if (o.getClass().isArray()) {
            room[1] += Array.getLength(o);
            for (int i = 0; !o.getClass().getComponentType().isPrimitive() && i < Array.getLength(o); i++) {
                weigh(Array.get(o, i), room, seen);
            }
            return;
        }
        for (Field f : o.getClass().getDeclaredFields()) {
            if (!Modifier.isStatic(f.getModifiers())) {
                room[1]++;
                f.setAccessible(true);
                if (!f.getType().isPrimitive()) {
                    weigh(f.get(o), room, seen);
                }
            }
        }
    }
}
