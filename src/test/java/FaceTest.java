import java.lang.reflect.Constructor;
import java.lang.reflect.Field;
import java.lang.reflect.Method;
import java.lang.reflect.Modifier;
import java.util.Set;
import java.util.TreeSet;

/** The public face: what the document shows, and no other member that is not private. */
public final class FaceTest {
    private static final Set<String> FACE = Set.of(
            "public static final int FlowFabric.NONE",
            "public FlowFabric(int,int,int)",
            "public int FlowFabric.attach(int,int)",
            "public boolean FlowFabric.link(int,int,int,int)",
            "public boolean FlowFabric.turn(int,int,boolean)",
            "public int FlowFabric.guard(int,int,int,int)",
            "public int FlowFabric.unguard(int,int)",
            "public boolean FlowFabric.send(int,int,int)",
            "public boolean FlowFabric.carry(int,int)",
            "public int FlowFabric.obey(int)",
            "public int FlowFabric.report(int)",
            "public boolean FlowFabric.probe()",
            "public int FlowFabric.tick()",
            "public int FlowFabric.waiting(int,int)",
            "public int FlowFabric.rule(int,int,int,int)",
            "public int FlowFabric.hits(int,int)",
            "public int FlowFabric.taken(int,int)",
            "public int FlowFabric.known(int,int)",
            "public int FlowFabric.place(int)",
            "public int FlowFabric.course(int,int,int)");

    private FaceTest() {}

    public static void main(String[] args) {
        Set<String> open = new TreeSet<>();
        Set<String> shut = new TreeSet<>();
        Set<String> openNames = new TreeSet<>();
        for (Method method : FlowFabric.class.getDeclaredMethods()) {
            if (Modifier.isPrivate(method.getModifiers())) {
                shut.add(method.getName());
            } else {
                open.add(method.toGenericString());
                openNames.add(method.getName());
            }
        }
        for (Field field : FlowFabric.class.getDeclaredFields()) {
            if (!Modifier.isPrivate(field.getModifiers())) {
                open.add(field.toGenericString());
            }
        }
        for (Constructor<?> made : FlowFabric.class.getDeclaredConstructors()) {
            if (!Modifier.isPrivate(made.getModifiers())) {
                open.add(made.toGenericString());
            }
        }
        Check check = new Check();
        check.part("the face");
        for (String member : FACE) {
            check.due(member + " is there", open.contains(member), true);
        }
        for (String member : open) {
            check.due(member + " is asked for", FACE.contains(member), true);
        }
        for (String name : shut) {
            check.due("private " + name + " bears a public name", openNames.contains(name), false);
        }
        check.due("final", Modifier.isFinal(FlowFabric.class.getModifiers()), true);
        check.due("public", Modifier.isPublic(FlowFabric.class.getModifiers()), true);
        for (Class<?> inside : FlowFabric.class.getDeclaredClasses()) {
            check.due(inside + " is static", Modifier.isStatic(inside.getModifiers()), true);
            check.due(inside + " is public", Modifier.isPublic(inside.getModifiers()), false);
        }
        check.end();
    }
}
