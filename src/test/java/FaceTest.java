import java.lang.reflect.Constructor;
import java.lang.reflect.Field;
import java.lang.reflect.Method;
import java.lang.reflect.Modifier;
import java.util.Arrays;
import java.util.Set;
import java.util.TreeSet;

/** The class has the document's face and nothing else that can be seen from outside. */
public final class FaceTest {
    private static final Set<String> FACE = new TreeSet<>(Arrays.asList(
        "public static final int BADARG",
        "public static final int NOROOM",
        "public static final int NOTMAPPED",
        "public static final int DOWN",
        "public SharedVolumes(int,int,int,int)",
        "public int SharedVolumes.format()",
        "public int SharedVolumes.stageWord(int,int)",
        "public int SharedVolumes.writeBlock(int,int)",
        "public int SharedVolumes.readWord(int,int,int)",
        "public int SharedVolumes.trim(int,int)",
        "public int SharedVolumes.cloneVol(int,int)",
        "public int SharedVolumes.dropVol(int)",
        "public int SharedVolumes.chunksUsed()",
        "public int SharedVolumes.refsOf(int,int)",
        "public int SharedVolumes.slotOf(int,int)",
        "public int SharedVolumes.slotWord(int,int)",
        "public void SharedVolumes.crashAfter(int)",
        "public boolean SharedVolumes.down()",
        "public int SharedVolumes.recover()",
        "public int SharedVolumes.writes()"));

    private static final Check CHECK = new Check();

    public static void main(String[] args) {
        CHECK.sentence("The public face: 'public final class SharedVolumes'", FaceTest::classIsPublicAndFinal);
        CHECK.sentence("The public face: each member", FaceTest::hasEachMember);
        CHECK.sentence("LANGUAGE.md, rule 1: 'no other .. member'", FaceTest::hasNoOtherMember);
        CHECK.sentence("LANGUAGE.md, rule 1: 'No private method bears the name ..'", FaceTest::privateNamesAreOthers);
        CHECK.sentence("Terms: 'BADARG = -1'", () -> CHECK.due("BADARG", SharedVolumes.BADARG, -1));
        CHECK.sentence("Terms: 'NOROOM = -2'", () -> CHECK.due("NOROOM", SharedVolumes.NOROOM, -2));
        CHECK.sentence("Terms: 'NOTMAPPED = -3'", () -> CHECK.due("NOTMAPPED", SharedVolumes.NOTMAPPED, -3));
        CHECK.sentence("Terms: 'DOWN = -4'", () -> CHECK.due("DOWN", SharedVolumes.DOWN, -4));
        CHECK.end();
    }

    private static void classIsPublicAndFinal() {
        int modifiers = SharedVolumes.class.getModifiers();
        CHECK.due("public class", Modifier.isPublic(modifiers), true);
        CHECK.due("final class", Modifier.isFinal(modifiers), true);
    }

    private static void hasEachMember() {
        Set<String> seen = visibleMembers();
        for (String member : FACE) {
            CHECK.due("has " + member, seen.contains(member), true);
        }
    }

    private static void hasNoOtherMember() {
        for (String member : visibleMembers()) {
            CHECK.due("may have " + member, FACE.contains(member), true);
        }
    }

    private static Set<String> visibleMembers() {
        Set<String> seen = new TreeSet<>();
        for (Field field : SharedVolumes.class.getDeclaredFields()) {
            if (!Modifier.isPrivate(field.getModifiers())) {
                seen.add(Modifier.toString(field.getModifiers()) + " " + field.getType() + " " + field.getName());
            }
        }
        for (Constructor<?> constructor : SharedVolumes.class.getDeclaredConstructors()) {
            if (!Modifier.isPrivate(constructor.getModifiers())) {
                seen.add(constructor.toString());
            }
        }
        for (Method method : SharedVolumes.class.getDeclaredMethods()) {
            if (!Modifier.isPrivate(method.getModifiers())) {
                seen.add(method.toString());
            }
        }
        return seen;
    }

    private static void privateNamesAreOthers() {
        for (Method method : SharedVolumes.class.getDeclaredMethods()) {
            if (Modifier.isPrivate(method.getModifiers())) {
                String member = "SharedVolumes." + method.getName() + "(";
                boolean taken = FACE.stream().anyMatch(face -> face.contains(member));
                CHECK.due("private " + method.getName() + " bears a public name", taken, false);
            }
        }
    }
}
