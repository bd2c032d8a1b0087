import java.lang.reflect.Constructor;
import java.lang.reflect.Field;
import java.lang.reflect.Method;
import java.lang.reflect.Modifier;
import java.util.Arrays;
import java.util.Set;
import java.util.TreeSet;

/** The public face: just the document's members, and no other that is not private. */
public final class FaceTest {
    private static final String[] FACE = {
        "public static final int OriginDesk.BAD",
        "public OriginDesk(int)",
        "public int OriginDesk.add(int,int,int,int,boolean,long)",
        "public void OriginDesk.clear()",
        "public void OriginDesk.request(int)",
        "public int OriginDesk.feed(int,long)",
        "public int OriginDesk.respond()",
        "public int OriginDesk.status()",
        "public int OriginDesk.chosen()",
        "public long OriginDesk.length()",
        "public int OriginDesk.body(int)",
        "public int OriginDesk.parts()",
        "public int OriginDesk.first(int)",
        "public int OriginDesk.last(int)",
        "public int OriginDesk.score(int)",
        "public boolean OriginDesk.formed(int)",
        "public long OriginDesk.date(int)",
    };

    public static void main(String[] args) {
        Set<String> want = new TreeSet<>(Arrays.asList(FACE));
        Set<String> got = new TreeSet<>();
        for (Field field : OriginDesk.class.getDeclaredFields()) {
            note(got, field.getModifiers(), field.toString());
        }
        for (Constructor<?> constructor : OriginDesk.class.getDeclaredConstructors()) {
            note(got, constructor.getModifiers(), constructor.toString());
        }
        for (Method method : OriginDesk.class.getDeclaredMethods()) {
            note(got, method.getModifiers(), method.toString());
        }
        for (String member : want) {
            Desk.due("has " + member, got.contains(member), true);
        }
        for (String member : got) {
            Desk.due("also has " + member, want.contains(member), true);
        }
        int modifiers = OriginDesk.class.getModifiers();
        Desk.due("the class is public and final", Modifier.isPublic(modifiers) && Modifier.isFinal(modifiers), true);
        Desk.due("BAD", OriginDesk.BAD, -1);
        classesInside();
        Desk.end();
    }

    /** Rule 1 of the language: no method beside the face bears the name of one of the face. */
    private static void classesInside() {
        Set<String> names = new TreeSet<>();
        for (Method method : OriginDesk.class.getDeclaredMethods()) {
            if (Modifier.isPublic(method.getModifiers())) {
                names.add(method.getName());
            } else {
                Desk.due(method + " bears a name of the face", isOfFace(method), false);
            }
        }
        Desk.due("how many names the face has", names.size(), 15);
        for (Class<?> inside : OriginDesk.class.getDeclaredClasses()) {
            int modifiers = inside.getModifiers();
            Desk.due(inside + " is seen outside", Modifier.isPublic(modifiers) || Modifier.isProtected(modifiers), false);
            Desk.due(inside + " is static", Modifier.isStatic(modifiers), true);
            for (Method method : inside.getDeclaredMethods()) {
                Desk.due(method + " bears a name of the face", isOfFace(method), false);
            }
        }
    }

    private static boolean isOfFace(Method method) {
        for (String member : FACE) {
            if (member.contains("OriginDesk." + method.getName() + "(")) {
                return true;
            }
        }
        return false;
    }

    private static void note(Set<String> members, int modifiers, String text) {
        if (!Modifier.isPrivate(modifiers)) {
            members.add(text);
        }
    }
}
