import java.lang.reflect.Constructor;
import java.lang.reflect.Field;
import java.lang.reflect.Method;
import java.lang.reflect.Modifier;
import java.util.Set;
import java.util.TreeSet;

/** The class shows the document's face, with its throws clauses, and no other member. */
public final class CarouselRowsFace {
    private static final String[] FACE = {
        "public CarouselRows(int)",
        "public int CarouselRows.put(int,int) throws java.util.NoSuchElementException,java.lang.IllegalArgumentException,java.lang.IllegalStateException,java.lang.UnsupportedOperationException",
        "public int CarouselRows.turn(int) throws java.lang.ArithmeticException,java.lang.IllegalArgumentException,java.lang.IllegalStateException",
        "public int CarouselRows.want(int) throws java.lang.IllegalArgumentException,java.lang.IllegalStateException,java.lang.UnsupportedOperationException",
        "public int CarouselRows.plan(int) throws java.lang.IllegalArgumentException,java.lang.IllegalStateException",
        "public int CarouselRows.at(int)",
        "public boolean CarouselRows.exact()",
        "public int CarouselRows.clear()",
        "public boolean CarouselRows.pick(int,int) throws java.lang.ArithmeticException,java.lang.IllegalArgumentException,java.lang.IllegalStateException",
        "public boolean CarouselRows.door(int,boolean) throws java.lang.IllegalArgumentException",
        "public int CarouselRows.move(int,int) throws java.util.NoSuchElementException,java.lang.IllegalStateException",
        "public boolean CarouselRows.blocked(int,boolean) throws java.util.NoSuchElementException",
        "public void CarouselRows.days(int) throws java.lang.IllegalArgumentException",
        "public int CarouselRows.learned(int) throws java.lang.IllegalArgumentException",
        "public int CarouselRows.rest()",
        "public int CarouselRows.shelf(int,int) throws java.util.NoSuchElementException,java.lang.IllegalArgumentException",
        "public int CarouselRows.unit(int) throws java.lang.IllegalArgumentException",
        "public int CarouselRows.count(int)",
    };

    private static void addUnlessPrivate(Set<String> found, int modifiers, String text) {
        if (!Modifier.isPrivate(modifiers)) {
            found.add(text);
        }
    }

    public static void main(String[] args) {
        Set<String> due = new TreeSet<>(Set.of(FACE));
        Set<String> found = new TreeSet<>();
        for (Constructor<?> c : CarouselRows.class.getDeclaredConstructors()) {
            addUnlessPrivate(found, c.getModifiers(), c.toString());
        }
        for (Method m : CarouselRows.class.getDeclaredMethods()) {
            addUnlessPrivate(found, m.getModifiers(), m.toString());
        }
        for (Field f : CarouselRows.class.getDeclaredFields()) {
            addUnlessPrivate(found, f.getModifiers(), f.toString());
        }
        boolean fine = found.equals(due) && Modifier.isPublic(CarouselRows.class.getModifiers())
                && Modifier.isFinal(CarouselRows.class.getModifiers());
        for (String text : due) {
            if (!found.contains(text)) {
                System.out.println("missing: " + text);
            }
        }
        for (String text : found) {
            if (!due.contains(text)) {
                System.out.println("not in the document: " + text);
            }
        }
        System.out.println(fine ? "the face is the document's" : "the face is not the document's");
        if (!fine) {
            System.exit(1);
        }
    }
}
