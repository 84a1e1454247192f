import java.lang.reflect.Field;
import java.lang.reflect.Member;
import java.lang.reflect.Method;
import java.lang.reflect.Modifier;
import java.util.Arrays;
import java.util.Set;
import java.util.TreeSet;

/** The public face: the document's constants, constructor and methods, and nothing else that is not private. */
public final class FaceTest {
    private static final String INDEX = "IndexOutOfBoundsException";
    private static final String ARGUMENT = "IllegalArgumentException";
    private static final String STATE = "IllegalStateException";

    private FaceTest() {
    }

    public static void main(String[] args) {
        int face = DroitLine.class.getModifiers();
        expect(Modifier.isPublic(face) && Modifier.isFinal(face), "the class is public and final");
        expect(DroitLine.class.getDeclaredConstructors().length == 1, "there is one constructor");
        constants();
        methods();
        for (Class<?> inside : DroitLine.class.getDeclaredClasses()) {
            int its = inside.getModifiers();
            expect(Modifier.isStatic(its) && !Modifier.isPublic(its) && !Modifier.isProtected(its),
                    inside.getName() + " is static and not public");
        }
        Check.end("FaceTest");
    }

    private static void expect(boolean holds, String what) {
        if (!holds) {
            Check.complain("it does not hold that " + what);
        }
    }

    private static void constants() {
        Check.same("NONE", DroitLine.NONE, -1);
        Check.same("OPEN", DroitLine.OPEN, 0);
        Check.same("UNSOLD", DroitLine.UNSOLD, 1);
        Check.same("SOLD", DroitLine.SOLD, 2);
        Check.same("PAID", DroitLine.PAID, 3);
        Check.same("SETTLED", DroitLine.SETTLED, 4);
        Check.same("NO_ARTIST", DroitLine.NO_ARTIST, -1);
        Check.same("LIVES", DroitLine.LIVES, 0);
        Set<String> names = new TreeSet<>();
        for (Field field : DroitLine.class.getDeclaredFields()) {
            if (isOpenToOthers(field)) {
                names.add(field.getName());
            }
            expect(!Modifier.isStatic(field.getModifiers()) || Modifier.isFinal(field.getModifiers()),
                    field.getName() + " is final");
        }
        expect(names.equals(Set.of("NONE", "OPEN", "UNSOLD", "SOLD", "PAID", "SETTLED", "NO_ARTIST", "LIVES")),
                "the fields open to others are the constants, not " + names);
    }

    private static void methods() {
        Set<String> due = new TreeSet<>();
        for (String whole : new String[] {"again/int/2", "advance/int/2", "bid/int/3", "lot/int/3"}) {
            due.add(whole + "/" + INDEX + "/" + ARGUMENT + "/" + STATE);
        }
        for (String name : new String[] {"hammer", "pay", "defaults", "payGaps", "settle"}) {
            due.add(name + "/int/1/" + INDEX + "/" + STATE);
        }
        for (String name : new String[] {"state", "buyerOf", "price", "bids", "share", "interest", "owes"}) {
            due.add(name + "/int/1/" + INDEX);
        }
        for (String name : new String[] {"callOf", "rate", "fee"}) {
            due.add(name + "/int/1/" + ARGUMENT);
        }
        for (String name : new String[] {"in", "out", "kept", "held", "heldByLots"}) {
            due.add(name + "/long/0");
        }
        due.add("commission/int/2/" + INDEX + "/" + ARGUMENT);
        due.add("days/int/1/" + ARGUMENT + "/" + STATE);
        due.add("lots/int/0");

        Set<String> found = new TreeSet<>();
        Set<String> hidden = new TreeSet<>();
        for (Method method : DroitLine.class.getDeclaredMethods()) {
            if (isOpenToOthers(method)) {
                found.add(described(method));
            } else {
                hidden.add(method.getName());
            }
        }
        expect(found.equals(due), "the methods open to others are " + due + ", not " + found);
        for (String one : found) {
            String name = one.substring(0, one.indexOf('/'));
            expect(!hidden.contains(name), "no private method is named " + name);
        }
    }

    private static boolean isOpenToOthers(Member member) {
        return !Modifier.isPrivate(member.getModifiers()) && !member.isSynthetic();
    }

    private static String described(Method method) {
        StringBuilder text = new StringBuilder();
        text.append(method.getName()).append('/').append(method.getReturnType()).append('/');
        text.append(method.getParameterCount());
        expect(Arrays.stream(method.getParameterTypes()).allMatch(type -> type == int.class),
                method.getName() + " takes ints");
        for (Class<?> thrown : method.getExceptionTypes()) {
            text.append('/').append(thrown.getSimpleName());
        }
        return text.toString();
    }
}
