import java.io.IOException;
import java.lang.reflect.Array;
import java.lang.reflect.Field;
import java.lang.reflect.Method;
import java.lang.reflect.Modifier;
import java.nio.file.Files;
import java.nio.file.Path;
import java.util.ArrayDeque;
import java.util.Arrays;
import java.util.IdentityHashMap;
import java.util.List;
import java.util.Map;
import java.util.Set;
import java.util.TreeMap;
import java.util.TreeSet;
import java.util.regex.Matcher;
import java.util.regex.Pattern;

/** What LANGUAGE.md asks and a machine can see: the face, the text of the class, the room that an object takes. */
public final class RulesTest {
    private static final Check c = new Check("RulesTest");
    private static final String FILE = "src/main/java/LightsMarket.java";

    public static void main(String[] args) throws IOException, ReflectiveOperationException {
        face();
        innerClasses();
        text(Files.readString(Path.of(FILE)));
        room();
        garbage();
        c.end();
    }

    private static final String[] FACE = {
        "int place()", "int line(int,int,int,int) N", "int mill(int,int,int,int,int,int,int,int,int) N",
        "int sheet(int,int)", "int write(int,int,int) N", "int copy(int,int,int,int,int) N",
        "int day(int,int,int,int) N", "int feed(int,int,int,int,int)", "int offer(int,int) N I", "int fault()",
        "int asked(int,int,int) N", "boolean rules(boolean,int,int)", "int flow(int,int,int,int) N",
        "int least(int,int,int) N I", "int units(int) N", "int plan(int,int) I", "int planned(int,int) N",
        "int price(int,int) N", "int pays(int,int) N", "int game(int) N", "int hides(int,int) N",
        "boolean alone(int,int) N", "boolean night(int,int,int,int) N", "boolean falls(int,int) N",
        "int minutes(int) I", "int ofNight(int) N", "boolean starts(int,boolean,int) N", "int way(int) N",
        "int act(int) N", "int evenings(int) I", "int meter(int,int,int) N", "int bill(int,int) N I", "int count(int) N",
    };

    private static String told(Method m) {
        StringBuilder s = new StringBuilder(m.getReturnType().getName() + " " + m.getName() + "(");
        for (Class<?> p : m.getParameterTypes()) {
            s.append(s.charAt(s.length() - 1) == '(' ? "" : ",").append(p.getName());
        }
        s.append(")");
        List<Class<?>> thrown = Arrays.asList(m.getExceptionTypes());
        s.append(thrown.contains(java.util.NoSuchElementException.class) ? " N" : "");
        s.append(thrown.contains(IllegalArgumentException.class) ? " I" : "");
        return s.toString();
    }

    private static void face() {
        Set<String> have = new TreeSet<>();
        Set<String> names = new TreeSet<>();
        for (Method m : LightsMarket.class.getDeclaredMethods()) {
            if (Modifier.isPublic(m.getModifiers())) {
                have.add(told(m));
                names.add(m.getName());
            } else {
                c.same(m + " is private", 1, Modifier.isPrivate(m.getModifiers()) ? 1 : 0);
            }
        }
        Set<String> want = new TreeSet<>(Arrays.asList(FACE));
        if (!have.equals(want)) {
            System.out.println("face is " + have);
        }
        c.same("the face", 1, have.equals(want) ? 1 : 0);
        for (Method m : LightsMarket.class.getDeclaredMethods()) {
            boolean clash = !Modifier.isPublic(m.getModifiers()) && names.contains(m.getName());
            c.same(m + " bears another name", 0, clash ? 1 : 0);
        }
        for (Field f : LightsMarket.class.getDeclaredFields()) {
            boolean isNone = f.getName().equals("NONE");
            c.same(f + " is private", 1, isNone || Modifier.isPrivate(f.getModifiers()) ? 1 : 0);
        }
        c.same("constructors", 1, LightsMarket.class.getConstructors().length);
        c.same("final", 1, Modifier.isFinal(LightsMarket.class.getModifiers()) ? 1 : 0);
    }

    private static void innerClasses() {
        Class<?>[] all = LightsMarket.class.getDeclaredClasses();
        c.same("at most twelve classes", 1, all.length + 1 <= 12 ? 1 : 0);
        Set<String> names = new TreeSet<>();
        for (Method m : LightsMarket.class.getDeclaredMethods()) {
            names.add(Modifier.isPublic(m.getModifiers()) ? m.getName() : "");
        }
        for (Class<?> k : all) {
            c.same(k + " is static", 1, Modifier.isStatic(k.getModifiers()) ? 1 : 0);
            int fields = 0;
            for (Field f : k.getDeclaredFields()) {
                boolean fixed = Modifier.isFinal(f.getModifiers());
                fields += Modifier.isStatic(f.getModifiers()) ? 0 : 1;
                c.same(f + " is final if static", 1, fixed || !Modifier.isStatic(f.getModifiers()) ? 1 : 0);
            }
            c.same(k + " has at most twenty fields", 1, fields <= 20 ? 1 : 0);
            for (Method m : k.getDeclaredMethods()) {
                c.same(m + " isn't named as one of the face", 0, names.contains(m.getName()) ? 1 : 0);
                c.same(m + " takes at most seven", 1, m.getParameterCount() <= 7 ? 1 : 0);
            }
        }
    }

    private static void text(String text) {
        String bare = text.replaceAll("(?s)/\\*.*?\\*/", "").replaceAll("//[^\n]*", "");
        String[] not = {"\\btry\\b", "\\bcatch\\b", "\\bfinally\\b", "\\bassert\\b", "\\bsynchronized\\b", "->", "::",
            "\\bpackage\\b", "Exact\\b", "\\bSystem\\.(?!arraycopy)", "\\bThread\\b", "\\bdouble\\b", "\\bfloat\\b",
            "\\binstanceof\\b", "\\bequals\\b", "\\bhashCode\\b", "\\btoString\\b", "\\bprotected\\b", "\"\\s*\\+",
            "\\+\\s*\"", "\\bInteger\\.", "\\bLong\\.", "\\bwhile\\b", "\\bdo\\b", "\\bvar\\b"};
        for (String n : not) {
            c.same("the text has no " + n, 0, Pattern.compile(n).matcher(bare).find() ? 1 : 0);
        }
        for (char ch : bare.toCharArray()) {
            c.same("a sign of the text", 1, ch < 128 ? 1 : 0);
        }
        Matcher news = Pattern.compile("(.*)\\bnew (\\w+)").matcher(bare);
        while (news.find()) {
            String ahead = news.group(1).trim();
            boolean thrown = ahead.equals("throw") && news.group(2).matches("NoSuchElement.*|IllegalArgument.*");
            boolean held = ahead.matches("((private )?final .*|\\w+|mill\\[m\\]) =");
            c.same("new " + news.group(2) + " behind '" + ahead + "'", 1, thrown || held ? 1 : 0);
        }
        methodLengths(bare.split("\n"));
    }

    private static void methodLengths(String[] lines) {
        int start = -1;
        Map<Integer, Integer> long60 = new TreeMap<>();
        for (int i = 0; i < lines.length; i++) {
            String indent = lines[i].replaceAll("\\S.*", "");
            boolean opens = lines[i].endsWith("{") && !lines[i].contains("class ");
            if (opens && (indent.length() == 4 || indent.length() == 8 && start < 0)) {
                start = i;
            }
            if (start >= 0 && lines[i].trim().equals("}") && indent.length() == lines[start].replaceAll("\\S.*", "").length()) {
                if (i - start > 60) {
                    long60.put(start + 1, i - start);
                }
                start = -1;
            }
        }
        c.same("methods of more than sixty lines " + long60, 0, long60.size());
    }

    /** Objects and arrays that hang on an object, and all their fields and elements. */
    private static long[] room(Object root) throws ReflectiveOperationException {
        IdentityHashMap<Object, Object> seen = new IdentityHashMap<>();
        ArrayDeque<Object> todo = new ArrayDeque<>();
        todo.add(root);
        seen.put(root, root);
        long parts = 0;
        while (!todo.isEmpty()) {
            Object o = todo.remove();
            if (o.getClass().isArray()) {
                parts += Array.getLength(o);
                for (int i = 0; o instanceof Object[] && i < Array.getLength(o); i++) {
                    add(((Object[]) o)[i], seen, todo);
                }
                continue;
            }
            for (Field f : o.getClass().getDeclaredFields()) {
                if (!Modifier.isStatic(f.getModifiers())) {
                    parts++;
                    f.setAccessible(true);
                    add(f.getType().isPrimitive() ? null : f.get(o), seen, todo);
                }
            }
        }
        return new long[] {seen.size(), parts};
    }

    private static void add(Object o, IdentityHashMap<Object, Object> seen, ArrayDeque<Object> todo) {
        if (o != null && seen.put(o, o) == null) {
            todo.add(o);
        }
    }

    private static void room() throws ReflectiveOperationException {
        LightsMarket x = new LightsMarket();
        long[] fresh = room(x);
        c.same("an object takes few objects: " + fresh[0], 1, fresh[0] < 500 ? 1 : 0);
        c.same("an object takes few elements: " + fresh[1], 1, fresh[1] < 20000 ? 1 : 0);
        long seed = 5;
        for (int i = 0; i < 512; i++) {
            seed = anyCall(x, seed, true);
        }
        long[] used = room(x);
        c.same("objects behind 512 calls", fresh[0], used[0]);
        c.same("elements behind 512 calls", fresh[1], used[1]);
    }

    private static void garbage() throws ReflectiveOperationException {
        for (int run = 0; run < 300; run++) {
            LightsMarket x = new LightsMarket();
            long seed = run * 31L + 7;
            for (int i = 0; i < 512; i++) {
                seed = anyCall(x, seed, run % 3 > 0);
            }
        }
    }

    private static final Method[] METHODS = sorted();

    private static Method[] sorted() {
        Method[] all = Arrays.stream(LightsMarket.class.getDeclaredMethods())
                .filter(m -> Modifier.isPublic(m.getModifiers())).toArray(Method[]::new);
        Arrays.sort(all, (a, b) -> a.getName().compareTo(b.getName()));
        return all;
    }

    private static long next(long seed) {
        return seed * 6364136223846793005L + 1442695040888963407L;
    }

    /** One call with any numbers, most of them small; it throws what it declares, or nothing. */
    private static long anyCall(LightsMarket x, long seed, boolean mild) throws ReflectiveOperationException {
        long s = next(seed);
        Method m = METHODS[(int) ((s >>> 33) % METHODS.length)];
        Object[] args = new Object[m.getParameterCount()];
        for (int i = 0; i < args.length; i++) {
            s = next(s);
            int v = (int) (s >>> 32);
            int how = (int) (s >>> 20 & 15);
            int number = mild && how > 0 || how > 8 ? (v >>> 3) % (how < 8 ? 4 : 13) : how > 4 ? v % 200 : v;
            args[i] = m.getParameterTypes()[i] == boolean.class ? (Object) (v < 0) : (Object) number;
        }
        try {
            m.invoke(x, args);
        } catch (java.lang.reflect.InvocationTargetException e) {
            Class<?> thrown = e.getCause().getClass();
            boolean declared = Arrays.asList(m.getExceptionTypes()).contains(thrown);
            c.same(m.getName() + Arrays.toString(args) + " throws " + thrown, 1, declared ? 1 : 0);
        }
        return next(s);
    }
}
