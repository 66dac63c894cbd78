import java.lang.reflect.Field;
import java.lang.reflect.InvocationTargetException;
import java.lang.reflect.Method;
import java.lang.reflect.Modifier;
import java.util.ArrayList;
import java.util.Arrays;
import java.util.List;
import java.util.NoSuchElementException;
import java.util.Random;
import java.util.Set;
import java.util.TreeSet;

/** The face as the document writes it, and that no arguments in any state make the machine throw. */
public final class FaceTest {
    private static final Checks c = new Checks();
    private static final String FACE = "int feed(int,int,int,int,int) boolean end(int) int fault(int) int text(int) "
            + "int stuff(int,int) int ship(int,int,int) int plan(int,int,int) boolean set(int,int) "
            + "boolean load(int,int,long) int roll(int) int day(int) int column(int,int,int) int hold(int,int) "
            + "int about(int) int goes(int,int) int least() int runs(int,int) int ballast(int) int course(int,int) "
            + "int best(int) int cost(int,int) int safe(int,int,int,int,int) int cheapest(int,int,int,int,int) "
            + "int fitted(int,int,int,int,int,int,int) int log(int) int agree(int,int,int) int heap(int) "
            + "int miss(int,int) int enough(int,int) int refuse(int,int,int,int) int image() int back() "
            + "int trim(int,int) int pour(int,int,int) int take(int,int,int) int heel(int) int tilt(int,int,int) "
            + "int ripens(int,int) int slide(int,int) int port(int,int) int reach(int,int) int over(int,int,int,int) "
            + "int soonest(int) int book(int) int follow(int,int,int,int,int) int better(int,int,int) int rules() "
            + "int count(int)";

    public static void main(String[] args) throws Exception {
        face();
        staticsAreFinal();
        namesOfTheFaceStandOnce();
        nothingThrows();
        c.finish();
    }

    private static List<Method> publicMethods() {
        List<Method> out = new ArrayList<>();
        for (Method m : GrainShift.class.getDeclaredMethods()) {
            if (Modifier.isPublic(m.getModifiers())) {
                out.add(m);
            }
        }
        out.sort((p, q) -> p.getName().compareTo(q.getName()));
        return out;
    }

    private static void face() {
        Set<String> got = new TreeSet<>();
        for (Method m : publicMethods()) {
            StringBuilder b = new StringBuilder();
            for (Class<?> p : m.getParameterTypes()) {
                b.append(b.length() == 0 ? "" : ",").append(p.getSimpleName());
            }
            got.add(m.getReturnType().getSimpleName() + " " + m.getName() + "(" + b + ")");
        }
        Set<String> want = new TreeSet<>(Arrays.asList(FACE.split(" (?=int |boolean )")));
        c.yes("the methods are " + got, got.equals(want));
        c.yes("final", Modifier.isFinal(GrainShift.class.getModifiers()));
        c.same("constructors", GrainShift.class.getConstructors().length, 1);
        c.same("public fields", GrainShift.class.getFields().length, 2);
        c.same("NONE", GrainShift.NONE, -1);
        c.same("HIDDEN", GrainShift.HIDDEN, -1000000);
        for (Method m : GrainShift.class.getDeclaredMethods()) {
            int mods = m.getModifiers();
            c.yes(m.getName() + " is public or private", Modifier.isPublic(mods) || Modifier.isPrivate(mods));
        }
    }

    private static void staticsAreFinal() {
        List<Class<?>> all = new ArrayList<>(Arrays.asList(GrainShift.class.getDeclaredClasses()));
        all.add(GrainShift.class);
        c.yes("at most twelve classes", all.size() <= 12);
        for (Class<?> k : all) {
            for (Field f : k.getDeclaredFields()) {
                c.yes(f + " is final", !Modifier.isStatic(f.getModifiers()) || Modifier.isFinal(f.getModifiers()));
            }
        }
    }

    private static void namesOfTheFaceStandOnce() {
        Set<String> face = new TreeSet<>();
        for (Method m : publicMethods()) {
            c.yes(m.getName() + " stands once", face.add(m.getName()));
        }
        List<Class<?>> all = new ArrayList<>(Arrays.asList(GrainShift.class.getDeclaredClasses()));
        all.add(GrainShift.class);
        for (Class<?> k : all) {
            for (Method m : k.getDeclaredMethods()) {
                boolean ofTheFace = k == GrainShift.class && Modifier.isPublic(m.getModifiers());
                c.yes(k.getSimpleName() + "." + m.getName(), ofTheFace || !face.contains(m.getName()));
                c.yes(m + " takes seven at most", m.getParameterCount() <= 7);
            }
        }
    }

    private static int any(Random r) {
        int[] odd = {Integer.MIN_VALUE, Integer.MAX_VALUE, -1, 0, 1, 2, 3, 4, 5, 9, 10, 11, 12, 40, 41, 60, 99, 100,
            1 << 20, 1000000, -1000000};
        return r.nextInt(3) == 0 ? odd[r.nextInt(odd.length)] : r.nextInt(7);
    }

    private static void nothingThrows() throws Exception {
        List<Method> methods = publicMethods();
        String[][] texts = {{"r1,w9", "s9,m9,l9"}, {"c2,h5;c12,h40", "c3"}, {"f9;f80,b3", "f12,g1", "f1;g5"},
            {"y:l>0?0-99;y:b+9", "y:[s/d]*9999*9999"}};
        for (int run = 0; run < 120; run++) {
            Random r = new Random(run);
            GrainShift x = new GrainShift();
            for (int k = 0; k < 500; k++) {
                if (k % 50 == 5) {
                    int sort = r.nextInt(4);
                    Checks.tell(x, sort, texts[sort][r.nextInt(texts[sort].length)]);
                    x.load(0, 0, r.nextLong());
                }
                call(x, methods.get(r.nextInt(methods.size())), r);
            }
        }
    }

    private static void call(GrainShift x, Method m, Random r) throws IllegalAccessException {
        Object[] with = new Object[m.getParameterCount()];
        for (int k = 0; k < with.length; k++) {
            if (m.getParameterTypes()[k] == long.class) {
                with[k] = (long) any(r);
            } else {
                with[k] = any(r);
            }
        }
        try {
            m.invoke(x, with);
        } catch (InvocationTargetException e) {
            boolean due = m.getName().equals("stuff") && e.getCause() instanceof NoSuchElementException;
            c.yes(m.getName() + Arrays.toString(with) + " threw " + e.getCause(), due);
        }
    }
}
