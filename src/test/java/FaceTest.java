import java.lang.reflect.Constructor;
import java.lang.reflect.Executable;
import java.lang.reflect.Field;
import java.lang.reflect.Method;
import java.lang.reflect.Modifier;
import java.util.Set;
import java.util.TreeSet;

/** The class has the document's face and no other member that is not private. */
public final class FaceTest {
    private static final String[] FACE = {
        "VolumeShepherd()",
        "int addDisk(int)", "int diskCount()", "char diskState(int)", "int usedOn(int)",
        "int addTenant(int,int)", "int tenantCount()", "int setHurry(int)",
        "int read(int,int)", "int write(int,int,int)", "char stateOf(int)", "int answerTo(int)",
        "int waitingOf(int)", "int servedOf(int)", "int creditsOf(int)", "int breachesOf(int)",
        "int pass(int)", "int clock()",
        "int blocksOf(int)", "int copiesOf(int,int)", "int copiesByDisks(int,int)",
        "int diskOfCopy(int,int,int)", "int valueOf(int,int)", "boolean isLost(int,int)",
        "int lostBlocks()", "int degradedBlocks()", "boolean doesBear(int)",
        "boolean doesBearByTrying(int)",
        "int fail(int)", "int replace(int)", "int warn(int)", "boolean rot(int,int)",
        "int scrub(int)", "int rottenOn(int)", "int rebuilt()", "int openRebuilds()",
        "double meanCopies()", "float usedShare()", "boolean isConsistent()",
        "int writeDisk(int)", "char lineAt(int)",
    };

    public static void main(String[] args) {
        Due due = new Due();
        due.is("the face", openMembers(), new TreeSet<>(Set.of(FACE)));
        int modifiers = VolumeShepherd.class.getModifiers();
        due.is("public", Modifier.isPublic(modifiers), true);
        due.is("final", Modifier.isFinal(modifiers), true);
        due.is("package", VolumeShepherd.class.getPackageName(), "");
        due.end();
    }

    private static Set<String> openMembers() {
        Set<String> open = new TreeSet<>();
        for (Constructor<?> constructor : VolumeShepherd.class.getDeclaredConstructors()) {
            addIfOpen(open, constructor, "VolumeShepherd");
        }
        for (Method method : VolumeShepherd.class.getDeclaredMethods()) {
            addIfOpen(open, method, method.getReturnType() + " " + method.getName());
        }
        for (Field field : VolumeShepherd.class.getDeclaredFields()) {
            if (!Modifier.isPrivate(field.getModifiers())) {
                open.add(field.toString());
            }
        }
        return open;
    }

    private static void addIfOpen(Set<String> open, Executable member, String name) {
        if (Modifier.isPrivate(member.getModifiers()) || member.isSynthetic()) {
            return;
        }
        StringBuilder types = new StringBuilder();
        for (Class<?> type : member.getParameterTypes()) {
            types.append(types.length() == 0 ? "" : ",").append(type);
        }
        String text = name + "(" + types + ")";
        open.add(Modifier.isPublic(member.getModifiers()) ? text : "not public: " + text);
    }
}
