import java.lang.reflect.Constructor;
import java.lang.reflect.Field;
import java.lang.reflect.Method;
import java.lang.reflect.Modifier;
import java.util.Arrays;
import java.util.Set;
import java.util.TreeSet;

/** The class has the document's face and nothing else that can be seen from outside. */
public final class FaceTest {
    private static final Set<String> FACE = new TreeSet<>(Arrays.asList(
        "public static final int BADARG",
        "public static final int NOROOM",
        "public static final int NOTMAPPED",
        "public static final int DOWN",
        "public SharedVolumes(int,int,int,int)",
        "public int SharedVolumes.format()",
        "public int SharedVolumes.stageWord(int,int)",
        "public int SharedVolumes.writeBlock(int,int)",
        "public int SharedVolumes.readWord(int,int,int)",
        "public int SharedVolumes.trim(int,int)",
        "public int SharedVolumes.cloneVol(int,int)",
        "public int SharedVolumes.dropVol(int)",
        "public int SharedVolumes.chunksUsed()",
        "public int SharedVolumes.refsOf(int,int)",
        "public int SharedVolumes.slotOf(int,int)",
        "public int SharedVolumes.slotWord(int,int)",
        "public void SharedVolumes.crashAfter(int)",
        "public boolean SharedVolumes.down()",
        "public int SharedVolumes.recover()",
        "public int SharedVolumes.writes()"));

    public static void main(String[] args) {
        Check check = new Check();
        check.at("the face");
        Set<String> seen = visibleMembers();
        for (String member : FACE) {
            check.due("has " + member, seen.contains(member), true);
        }
        for (String member : seen) {
            check.due("may have " + member, FACE.contains(member), true);
        }
        int modifiers = SharedVolumes.class.getModifiers();
        check.due("public class", Modifier.isPublic(modifiers), true);
        check.due("final class", Modifier.isFinal(modifiers), true);
        checkPrivateNames(check);
        checkConstants(check);
        check.end();
    }

    private static Set<String> visibleMembers() {
        Set<String> seen = new TreeSet<>();
        for (Field field : SharedVolumes.class.getDeclaredFields()) {
            if (!Modifier.isPrivate(field.getModifiers())) {
                seen.add(Modifier.toString(field.getModifiers()) + " " + field.getType() + " " + field.getName());
            }
        }
        for (Constructor<?> constructor : SharedVolumes.class.getDeclaredConstructors()) {
            if (!Modifier.isPrivate(constructor.getModifiers())) {
                seen.add(constructor.toString());
            }
        }
        for (Method method : SharedVolumes.class.getDeclaredMethods()) {
            if (!Modifier.isPrivate(method.getModifiers())) {
                seen.add(method.toString());
            }
        }
        return seen;
    }

    private static void checkPrivateNames(Check check) {
        for (Method method : SharedVolumes.class.getDeclaredMethods()) {
            if (Modifier.isPrivate(method.getModifiers())) {
                String member = "SharedVolumes." + method.getName() + "(";
                boolean taken = FACE.stream().anyMatch(face -> face.contains(member));
                check.due("private " + method.getName() + " bears a public name", taken, false);
            }
        }
    }

    private static void checkConstants(Check check) {
        check.due("BADARG", SharedVolumes.BADARG, -1);
        check.due("NOROOM", SharedVolumes.NOROOM, -2);
        check.due("NOTMAPPED", SharedVolumes.NOTMAPPED, -3);
        check.due("DOWN", SharedVolumes.DOWN, -4);
    }
}
