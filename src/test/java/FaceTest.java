import java.lang.reflect.Constructor;
import java.lang.reflect.Field;
import java.lang.reflect.Method;
import java.lang.reflect.Modifier;
import java.util.ArrayList;
import java.util.Arrays;
import java.util.Collections;
import java.util.List;

/** The public face of the document, and what LANGUAGE.md says of the face (rule 1). */
final class FaceTest {
    private static final String[] FACE = {
        "int atRisk()",
        "int begin(boolean) IllegalStateException",
        "int bestInstances(int) IllegalArgumentException",
        "int completed(int) IllegalArgumentException",
        "int completesIn(int) IllegalArgumentException",
        "int count(int)",
        "int errorCode()",
        "int errorOffset()",
        "int expected(int,int) IllegalArgumentException",
        "int fail()",
        "int feed(int,int,int,int,int)",
        "int find()",
        "int fullest()",
        "int inChannel(int,int,boolean) IndexOutOfBoundsException",
        "int instance(int,int) IndexOutOfBoundsException",
        "int notedPosition(int) IndexOutOfBoundsException",
        "int notedSum(int) IllegalArgumentException",
        "int outChannel(int,int,boolean) IndexOutOfBoundsException",
        "int outputByte(int)",
        "int owner(int) IllegalArgumentException",
        "int parse()",
        "int printSink(int) IndexOutOfBoundsException",
        "int progress(int) IllegalArgumentException",
        "int quietIn()",
        "int record(int,int,int) IndexOutOfBoundsException",
        "float repeated()",
        "int rescale(int) IllegalArgumentException",
        "int restoreState() IllegalStateException",
        "int run(int) IllegalArgumentException",
        "int saveState()",
        "int setEvery(int,boolean) IllegalArgumentException",
        "int setLag(int,int) IndexOutOfBoundsException IllegalArgumentException",
        "int setRoom(int) IllegalArgumentException",
        "int shown(int,int,int) IndexOutOfBoundsException NoSuchElementException",
        "int shownOf(int) IllegalArgumentException",
        "int sink(int,int) IndexOutOfBoundsException",
        "double skew()",
        "int source(int,int) IndexOutOfBoundsException",
        "int sum(int) IllegalArgumentException",
        "boolean truncate(int)",
        "int undo() IllegalStateException",
        "int wouldKeep()",
        "int wouldTake(boolean)",
    };

    public static void main(String[] args) {
        Class<?> face = BarrierFlow.class;
        Check.due("the class", Modifier.PUBLIC | Modifier.FINAL, face::getModifiers);
        Constructor<?>[] made = face.getDeclaredConstructors();
        Check.due("one constructor", 1, () -> made.length);
        Check.due("it is public", Modifier.PUBLIC, () -> made[0].getModifiers());
        Check.due("without parameters", 0, () -> made[0].getParameterCount());
        methods(face);
        fields(face);
        classes(face);
        Check.end("FaceTest");
    }

    private static void methods(Class<?> face) {
        List<String> due = new ArrayList<>(Arrays.asList(FACE));
        List<String> there = new ArrayList<>();
        List<String> names = new ArrayList<>();
        for (Method m : face.getDeclaredMethods()) {
            if (!Modifier.isPrivate(m.getModifiers())) {
                Check.due(m + " is public alone", Modifier.PUBLIC, m::getModifiers);
                there.add(signature(m));
                names.add(m.getName());
            }
        }
        Collections.sort(due);
        Collections.sort(there);
        Check.due("the public methods", due, () -> there);
        List<Class<?>> all = new ArrayList<>(Arrays.asList(face.getDeclaredClasses()));
        all.add(face);
        for (Class<?> c : all) {
            for (Method m : c.getDeclaredMethods()) {
                boolean own = c != face || Modifier.isPrivate(m.getModifiers());
                Check.due(m + " bears no public name", false, () -> own && names.contains(m.getName()));
                Check.due(m + " takes at most 7", true, () -> m.getParameterCount() <= 7);
            }
        }
    }

    private static String signature(Method m) {
        StringBuilder text = new StringBuilder();
        text.append(m.getReturnType()).append(' ').append(m.getName()).append('(');
        for (int i = 0; i < m.getParameterCount(); i++) {
            text.append(i > 0 ? "," : "").append(m.getParameterTypes()[i]);
        }
        text.append(')');
        for (Class<?> kind : m.getExceptionTypes()) {
            text.append(' ').append(kind.getSimpleName());
        }
        return text.toString();
    }

    private static void fields(Class<?> face) {
        for (Field f : face.getDeclaredFields()) {
            int kind = f.getModifiers();
            if (f.getName().equals("NONE")) {
                Check.due("NONE", Modifier.PUBLIC | Modifier.STATIC | Modifier.FINAL, () -> kind);
            } else {
                Check.due(f + " is private", true, () -> Modifier.isPrivate(kind));
            }
            Check.due(f + ": no static state", false, () -> Modifier.isStatic(kind) && !Modifier.isFinal(kind));
        }
    }

    private static void classes(Class<?> face) {
        Class<?>[] inside = face.getDeclaredClasses();
        Check.due("at most 12 classes", true, () -> inside.length + 1 <= 12);
        for (Class<?> c : inside) {
            Check.due(c + " is private and static", true,
                    () -> Modifier.isPrivate(c.getModifiers()) && Modifier.isStatic(c.getModifiers()));
            int many = 0;
            for (Field f : c.getDeclaredFields()) {
                many += Modifier.isStatic(f.getModifiers()) ? 0 : 1;
            }
            int fields = many;
            Check.due(c + " has at most 20 fields", true, () -> fields <= 20);
        }
    }
}
