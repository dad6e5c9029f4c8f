import java.lang.reflect.Field;
import java.lang.reflect.Member;
import java.lang.reflect.Method;
import java.lang.reflect.Modifier;
import java.util.ArrayList;
import java.util.Arrays;
import java.util.HashSet;
import java.util.List;
import java.util.Set;
import java.util.TreeSet;

/** The public face is that of the document and no other; the rules on names and sizes that reflection can see. */
public final class FaceTest {
    private static final String[] FACE = {
        "int feed(int,int,int,int,int)", "boolean end(int)", "int country()", "int fault()", "int term(int)",
        "int reach(int,int)", "int at(int,int) throws", "int editor(int,int)", "int makes(int,int)",
        "int town(int,int) throws", "int now(int)", "int days(int)", "boolean wake(int,int)",
        "boolean stone(int,int,int)", "int undo()", "int well(int,int)", "int sense(int)", "int sayings(int)",
        "int flows(int,int,int)", "int above(int)", "int source(int)", "int comes(int,int)", "long saying(int)",
        "int saidAt(int)", "int wish(int)", "int rests(int,int)", "int own(int)", "int liked(int,int,int)",
        "int sure(int)", "int most()", "int when(int,int,int)", "int clashes(int)", "int unlike(int,int,int)",
        "int drawn(int,int)", "int stones()", "int odds(int,int,int)", "int daybook(int)", "int booked(int)",
        "int sentence()", "int said(int)", "boolean image(int)", "boolean restore(int)", "int count(int)",
    };
    private static int wrong = 0;

    public static void main(String[] args) {
        face();
        insides();
        System.out.println(wrong == 0 ? "the face is as told" : wrong + " things are not as told");
        if (wrong != 0) {
            System.exit(1);
        }
    }

    private static void expect(boolean good, String what) {
        if (!good) {
            wrong++;
            System.out.println(what);
        }
    }

    private static String told(Method m) {
        StringBuilder b = new StringBuilder(m.getReturnType() + " " + m.getName() + "(");
        for (int i = 0; i < m.getParameterCount(); i++) {
            b.append(i > 0 ? "," : "").append(m.getParameterTypes()[i]);
        }
        return b.append(")").append(m.getExceptionTypes().length > 0 ? " throws" : "").toString();
    }

    private static void face() {
        Set<String> due = new TreeSet<>(Arrays.asList(FACE));
        Set<String> got = new TreeSet<>();
        for (Method m : RiverText.class.getDeclaredMethods()) {
            if (!Modifier.isPrivate(m.getModifiers())) {
                got.add(told(m));
            }
        }
        expect(got.equals(due), "methods: " + got + ", due are " + due);
        expect(Modifier.isFinal(RiverText.class.getModifiers()), "the class is not final");
        expect(RiverText.class.getDeclaredConstructors().length == 1, "more constructors than one");
        for (Field f : RiverText.class.getDeclaredFields()) {
            expect(Modifier.isPrivate(f.getModifiers()) || f.getName().equals("NONE"), "seen outside: " + f);
        }
        expect(RiverText.NONE == -1, "NONE");
    }

    private static void insides() {
        Set<String> faceNames = new HashSet<>();
        for (String method : FACE) {
            faceNames.add(method.substring(method.indexOf(' ') + 1, method.indexOf('(')));
        }
        List<Class<?>> classes = new ArrayList<>(List.of(RiverText.class.getDeclaredClasses()));
        classes.add(RiverText.class);
        expect(classes.size() <= 12, "classes: " + classes.size());
        for (Class<?> c : classes) {
            expect(c == RiverText.class || Modifier.isStatic(c.getModifiers()), "not static: " + c);
            long fields = Arrays.stream(c.getDeclaredFields()).filter(f -> !isStatic(f)).count();
            expect(fields <= 20, c + " has " + fields + " fields");
            for (Method m : c.getDeclaredMethods()) {
                boolean isFace = c == RiverText.class && Modifier.isPublic(m.getModifiers());
                expect(isFace || !faceNames.contains(m.getName()), "bears a public name: " + m);
                expect(m.getParameterCount() <= 7, "too many parameters: " + m);
            }
            for (Field f : c.getDeclaredFields()) {
                expect(!isStatic(f) || Modifier.isFinal(f.getModifiers()), "static and not final: " + f);
            }
        }
    }

    private static boolean isStatic(Member member) {
        return Modifier.isStatic(member.getModifiers());
    }
}
