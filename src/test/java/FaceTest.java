import java.io.IOException;
import java.lang.reflect.Constructor;
import java.lang.reflect.Field;
import java.lang.reflect.Method;
import java.lang.reflect.Modifier;
import java.nio.file.Files;
import java.nio.file.Path;
import java.util.List;
import java.util.Set;
import java.util.TreeSet;

/** The public face, word for word, and of the language rules those that can be read off. */
public final class FaceTest {
    private static final String WRONG_NUMBER = "java.lang.IllegalArgumentException";
    private static final String WRONG_STATE = "java.lang.IllegalStateException";
    private static final String WRONG_PLACE = "java.lang.IndexOutOfBoundsException";
    private static final String NOTHING_THERE = "java.util.NoSuchElementException";

    private static final List<String> FACE = List.of(
            "void make(int,int) throws " + WRONG_NUMBER,
            "void layer(int) throws " + WRONG_NUMBER + "," + WRONG_STATE,
            "void drop(int) throws " + WRONG_NUMBER + "," + WRONG_STATE,
            "void move(int,int) throws " + WRONG_NUMBER,
            "void mode(int,int,int,boolean) throws " + WRONG_NUMBER,
            "int select(int,int,int,int) throws " + WRONG_NUMBER,
            "void brush(int,int) throws " + WRONG_NUMBER,
            "void fill(int,int) throws " + WRONG_NUMBER,
            "void gradient(int,int,int,int) throws " + WRONG_NUMBER,
            "void stroke(int,int,int) throws " + WRONG_NUMBER,
            "int flood(int,int,int,int,int) throws " + WRONG_NUMBER,
            "int copy(int) throws " + WRONG_NUMBER,
            "int paste(int,int,int) throws " + WRONG_NUMBER + "," + NOTHING_THERE,
            "void mirror(int,int) throws " + WRONG_NUMBER,
            "void shift(int,int,int) throws " + WRONG_NUMBER,
            "void blur(int,int) throws " + WRONG_NUMBER,
            "boolean undo()",
            "boolean redo()",
            "int save(int) throws " + WRONG_NUMBER,
            "void open() throws " + NOTHING_THERE,
            "int dot(int,int,int,int) throws " + WRONG_NUMBER + "," + WRONG_PLACE,
            "int view(int,int,int) throws " + WRONG_NUMBER + "," + WRONG_PLACE,
            "int histogram(int,int,int) throws " + WRONG_NUMBER,
            "int count(int)");

    public static void main(String[] args) throws IOException {
        methods();
        otherMembers();
        classesInside();
        source(Files.readString(Path.of("src/main/java/TileStudio.java")));
        Check.finish();
    }

    private static void methods() {
        Set<String> found = new TreeSet<>();
        Set<String> names = new TreeSet<>();
        for (Method method : TileStudio.class.getDeclaredMethods()) {
            if (!Modifier.isPrivate(method.getModifiers())) {
                found.add(method.toString());
                names.add(method.getName());
            }
        }
        Set<String> due = new TreeSet<>();
        for (String method : FACE) {
            due.add("public " + method.replaceFirst(" ", " TileStudio."));
        }
        Check.sameText("the face", found.toString(), due.toString());
        for (Method method : TileStudio.class.getDeclaredMethods()) {
            boolean isPrivate = Modifier.isPrivate(method.getModifiers());
            Check.holds("no private method named " + method.getName(), !isPrivate || !names.contains(method.getName()));
            Check.holds("at most seven parameters: " + method, method.getParameterCount() <= 7);
        }
    }

    private static void otherMembers() {
        Check.sameText("the class", Modifier.toString(TileStudio.class.getModifiers()), "public final");
        Constructor<?>[] constructors = TileStudio.class.getDeclaredConstructors();
        Check.same("constructors", constructors.length, 1);
        Check.sameText("the constructor", constructors[0].toString(), "public TileStudio()");
        for (Field field : TileStudio.class.getDeclaredFields()) {
            Check.holds("private: " + field, Modifier.isPrivate(field.getModifiers()));
            Check.holds("static and not final: " + field,
                    !Modifier.isStatic(field.getModifiers()) || Modifier.isFinal(field.getModifiers()));
        }
    }

    private static void classesInside() {
        Class<?>[] inside = TileStudio.class.getDeclaredClasses();
        Check.holds("at most twelve classes", inside.length + 1 <= 12);
        for (Class<?> one : inside) {
            int modifiers = one.getModifiers();
            Check.holds("static: " + one, Modifier.isStatic(modifiers));
            Check.holds("not public: " + one, !Modifier.isPublic(modifiers) && !Modifier.isProtected(modifiers));
        }
    }

    private static void source(String text) {
        Check.holds("no package", !text.contains("package "));
        Check.holds("one import", text.indexOf("import ") == text.lastIndexOf("import "));
        Check.holds("this import", text.startsWith("import java.util.NoSuchElementException;"));
        String[] ruledOut = {"->", "::", "synchronized", "assert ", "finally", "Exact(", "new Object", "double ",
            "float ", "System.out", "Random", "nanoTime", "currentTimeMillis", ".equals(", "hashCode", "toString"};
        for (String word : ruledOut) {
            Check.holds("not in the source: " + word, !text.contains(word));
        }
    }
}
