import java.lang.reflect.Constructor;
import java.lang.reflect.Field;
import java.lang.reflect.Method;
import java.lang.reflect.Modifier;
import java.util.Set;
import java.util.TreeSet;

/** The class has the document's face and nothing else that is seen from outside (LANGUAGE.md, 1 and 2). */
public final class FaceTest {
    private static final String FACE =
        "roof(int) ofRoof(int,int) change(int,int,int) owe(int,int,int) owed(int,int) pay(int,int) "
        + "sell(int,int,int) cloud(int,int) ofCloud(int,int) become(int,int) as(int,int) lead(int,int,int) "
        + "feed(long,int) text(int) law(int,int,int,int) days(int) loose(int) clear() then(int,int,int) "
        + "drought(int,int) when(int,int) sellers(int,int) clears() patches(int) trades() fell(int,int) "
        + "gains(int,int,int) seed(int) voice(int,int,int) trace(int) sheet(int,int,int) put(int,int,int) "
        + "move(int,int,int,int,int) shares(int) judge(int) image() restore() tell(int) check() count(int) "
        + "told(int)";

    public static void main(String[] args) {
        Class<?> face = RainShares.class;
        Due.holds("the class is public and final",
            Modifier.isPublic(face.getModifiers()) && Modifier.isFinal(face.getModifiers()));
        Due.is("methods", seenFrom(face).size(), FACE.split(" ").length);
        Due.holds("the face " + seenFrom(face), seenFrom(face).equals(new TreeSet<>(Set.of(FACE.split(" ")))));
        Due.is("constructors", face.getDeclaredConstructors().length, 1);
        for (Constructor<?> c : face.getDeclaredConstructors()) {
            Due.holds("its constructor", Modifier.isPublic(c.getModifiers()) && c.getParameterCount() == 0);
        }
        for (Field f : face.getDeclaredFields()) {
            Due.holds("field " + f.getName() + " is private", Modifier.isPrivate(f.getModifiers()));
        }
        noNameTwice(face, face);
        staticAreFinal(face);
        for (Class<?> inside : face.getDeclaredClasses()) {
            Due.holds(inside + " is static", Modifier.isStatic(inside.getModifiers()));
            Due.holds(inside + " is not public", !Modifier.isPublic(inside.getModifiers()));
            noNameTwice(face, inside);
            staticAreFinal(inside);
        }
        Due.end();
    }

    private static Set<String> seenFrom(Class<?> face) {
        Set<String> seen = new TreeSet<>();
        for (Method m : face.getDeclaredMethods()) {
            if (!Modifier.isPrivate(m.getModifiers())) {
                Due.holds(m + " gives an int", m.getReturnType() == int.class);
                Due.holds(m + " is public", Modifier.isPublic(m.getModifiers()));
                StringBuilder s = new StringBuilder(m.getName()).append('(');
                for (Class<?> type : m.getParameterTypes()) {
                    s.append(s.charAt(s.length() - 1) == '(' ? "" : ",").append(type.getName());
                }
                seen.add(s.append(')').toString());
            }
        }
        return seen;
    }

    private static void noNameTwice(Class<?> face, Class<?> where) {
        Set<String> names = new TreeSet<>();
        for (Method m : face.getDeclaredMethods()) {
            if (Modifier.isPublic(m.getModifiers())) {
                names.add(m.getName());
            }
        }
        for (Method m : where.getDeclaredMethods()) {
            boolean own = Modifier.isPublic(m.getModifiers());
            Due.holds(where + " has a name of the face: " + m.getName(), own || !names.contains(m.getName()));
        }
    }

    private static void staticAreFinal(Class<?> where) {
        for (Field f : where.getDeclaredFields()) {
            int is = f.getModifiers();
            Due.holds(where + "." + f.getName() + " is final", !Modifier.isStatic(is) || Modifier.isFinal(is));
        }
    }
}
