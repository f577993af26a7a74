import java.lang.reflect.Constructor;
import java.lang.reflect.Field;
import java.lang.reflect.Method;
import java.lang.reflect.Modifier;
import java.util.Set;
import java.util.TreeSet;

/** The class has the document's face and nothing else to be seen, and keeps to what can be told of LANGUAGE.md. */
public final class FaceTest {
    private static final String[] FACE = {
        "int feed(int,int,int,int,int)", "boolean end(int)", "int fault(int)", "int text(int)", "int bench(int)",
        "int cat(int,int)", "int accused(int,int)", "boolean law(int)", "int mood(int,int,int,int)",
        "int odds(int,int,int,int)", "int held(int,int,int)", "int right(int,int)", "int fish(int)", "int nights(int)",
        "boolean heat(int)", "boolean milk(int,boolean)", "boolean retire(int,boolean)", "int hear(int,int,long)",
        "int undo()", "int log(int,int)", "int ask(int,int,int)", "int three(int)", "int spare(int,int)",
        "int mercy(int,int,int,int)", "int appeals(int,int,int)", "int alike(int,int,int,int)", "int rests(int,int)",
        "int surely(int,int)", "int noisy(int,int)", "int mean(int,int,int)", "int likely(int,int,int)",
        "int quiet(int,int,int)", "int bar(int,int,int)", "int moonlit(int,int,int)", "int brothers(int,int,int)",
        "int see(int,int,int)", "int guess(int)", "int drank(int)", "int sure()", "int fits(int)", "int often(int,int)",
        "int harsh()", "int free(int)", "int image()", "int back()", "int count(int)"
    };

    private static int wrong = 0;

    private static void must(boolean holds, String what) {
        if (!holds) {
            wrong++;
            System.out.println("not so: " + what);
        }
    }

    private static String told(Method m) {
        StringBuilder s = new StringBuilder(m.getReturnType().getName()).append(' ').append(m.getName()).append('(');
        Class<?>[] types = m.getParameterTypes();
        for (int i = 0; i < types.length; i++) {
            s.append(i == 0 ? "" : ",").append(types[i].getName());
        }
        return s.append(')').toString();
    }

    private static void look(Class<?> c, Set<String> names) {
        must(c == CatCourt.class || Modifier.isStatic(c.getModifiers()) && !Modifier.isPublic(c.getModifiers()),
            c + " is static and not public");
        int fields = 0;
        for (Field f : c.getDeclaredFields()) {
            boolean isStatic = Modifier.isStatic(f.getModifiers());
            must(!isStatic || Modifier.isFinal(f.getModifiers()), f + " is final");
            fields += isStatic ? 0 : 1;
        }
        must(fields <= 20, c + " has some twenty fields at most");
        for (Method m : c.getDeclaredMethods()) {
            must(m.getParameterCount() <= 7, m + " takes seven at most");
            must(!m.isSynthetic(), m + " is written");
            must(Modifier.isPublic(m.getModifiers()) || !names.contains(m.getName()), m + " bears another name");
        }
    }

    public static void main(String[] args) {
        Class<?> c = CatCourt.class;
        must(Modifier.isPublic(c.getModifiers()) && Modifier.isFinal(c.getModifiers()), "public and final");
        Set<String> due = new TreeSet<>(Set.of(FACE));
        Set<String> names = new TreeSet<>();
        Set<String> seen = new TreeSet<>();
        for (Method m : c.getDeclaredMethods()) {
            if (!Modifier.isPrivate(m.getModifiers())) {
                must(Modifier.isPublic(m.getModifiers()) && !Modifier.isStatic(m.getModifiers()), m + " is public");
                seen.add(told(m));
                names.add(m.getName());
            }
        }
        must(seen.equals(due), "the methods are " + due + ", not " + seen);
        Constructor<?>[] made = c.getDeclaredConstructors();
        must(made.length == 1 && made[0].getParameterCount() == 0 && Modifier.isPublic(made[0].getModifiers()),
            "one public constructor of nothing");
        int constants = 0;
        for (Field f : c.getDeclaredFields()) {
            if (!Modifier.isPrivate(f.getModifiers())) {
                constants++;
                must(f.getName().equals("NONE") || f.getName().equals("HIDDEN"), f + " is a constant of the face");
            }
        }
        must(constants == 2, "two constants");
        look(c, names);
        for (Class<?> inside : c.getDeclaredClasses()) {
            look(inside, names);
        }
        must(c.getDeclaredClasses().length <= 11, "some twelve classes at most");
        System.out.println(wrong == 0 ? "the face is as due" : wrong + " things are not so");
        if (wrong != 0) {
            System.exit(1);
        }
    }
}
