import java.lang.reflect.Constructor;
import java.lang.reflect.Field;
import java.lang.reflect.Method;
import java.lang.reflect.Modifier;
import java.util.ArrayList;
import java.util.Arrays;
import java.util.Collections;
import java.util.List;
import java.util.Set;
import java.util.TreeSet;

/** The face as the document has it, and what LANGUAGE.md says of members. */
public final class FaceTests {
    private static final String[] FACE = {
        "int feed(int,int,int,int,int)", "boolean end(int)", "int fault(int)", "int text(int)", "int source(int,int)",
        "int street(int)", "boolean law(int)", "boolean set(int,int)", "boolean open(int,boolean)",
        "int hours(int,long)", "int undo()", "int far(int,int)", "int smell(int,int)", "int breath(int)",
        "int strongest(int)", "int trail(int,int)", "boolean wipe()", "int where(int)", "int door(int)",
        "int most(int)", "int silent()", "int unlike(int,int)", "int forged(int,int)", "int follow(int,int,int)",
        "int led(int)", "int sure(int,int)", "int note(int,int,int,boolean)", "int thief(int)", "int found(int)",
        "int image()", "int back()", "int count(int)"};

    public static void main(String[] args) throws Exception {
        List<String> face = new ArrayList<>();
        Set<String> names = new TreeSet<>();
        for (Method m : SmellMap.class.getDeclaredMethods()) {
            if (Modifier.isPublic(m.getModifiers())) {
                face.add(m.getReturnType() + " " + m.getName() + types(m.getParameterTypes()));
                names.add(m.getName());
            }
        }
        List<String> want = new ArrayList<>(Arrays.asList(FACE));
        Collections.sort(want);
        Collections.sort(face);
        Check.due("the face is the document's: " + face, face.equals(want), true);
        Check.due("source() tells what it throws", Arrays.toString(SmellMap.class.getMethod("source", int.class,
            int.class).getExceptionTypes()).equals("[class java.util.NoSuchElementException]"), true);
        Check.due("public and final", SmellMap.class.getModifiers(), Modifier.PUBLIC | Modifier.FINAL);
        constructors();
        members(SmellMap.class, names);
        Class<?>[] inside = SmellMap.class.getDeclaredClasses();
        Check.due("twelve classes inside at most", inside.length <= 12, true);
        for (Class<?> c : inside) {
            Check.due(c.getName() + " is static", Modifier.isStatic(c.getModifiers()), true);
            Check.due(c.getName() + " is not public", Modifier.isPublic(c.getModifiers()), false);
            members(c, names);
        }
        Check.close("FaceTests");
    }

    private static String types(Class<?>[] types) {
        List<String> names = new ArrayList<>();
        for (Class<?> type : types) {
            names.add(type.getName());
        }
        return "(" + String.join(",", names) + ")";
    }

    private static void constructors() {
        Constructor<?>[] all = SmellMap.class.getDeclaredConstructors();
        Check.due("one constructor", all.length, 1);
        Check.due("it is public", Modifier.isPublic(all[0].getModifiers()), true);
        Check.due("it takes nothing", all[0].getParameterCount(), 0);
    }

    private static void members(Class<?> c, Set<String> face) {
        int fields = 0;
        for (Field f : c.getDeclaredFields()) {
            boolean constant = f.getName().equals("NONE") || f.getName().equals("HIDDEN");
            if (c == SmellMap.class) {
                Check.due(f.getName() + " is private, or a constant of the document",
                    Modifier.isPrivate(f.getModifiers()) || constant && Modifier.isPublic(f.getModifiers()), true);
            }
            if (Modifier.isStatic(f.getModifiers())) {
                Check.due(f.getName() + " is final", Modifier.isFinal(f.getModifiers()), true);
            } else {
                fields++;
            }
        }
        Check.due("twenty fields at most in " + c.getName(), fields <= 20, true);
        for (Method m : c.getDeclaredMethods()) {
            String name = c.getName() + "." + m.getName();
            boolean ofFace = c == SmellMap.class && Modifier.isPublic(m.getModifiers());
            Check.due(name + " bears no name of the face", ofFace || !face.contains(m.getName()), true);
            Check.due(name + " is private, or of the face",
                c != SmellMap.class || ofFace || Modifier.isPrivate(m.getModifiers()), true);
            Check.due(name + " takes seven parameters at most", m.getParameterCount() <= 7, true);
            Check.due(name + " is written by hand", m.isSynthetic(), false);
        }
    }
}
