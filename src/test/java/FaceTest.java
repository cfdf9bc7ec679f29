import java.lang.reflect.Constructor;
import java.lang.reflect.Executable;
import java.lang.reflect.Field;
import java.lang.reflect.Method;
import java.lang.reflect.Modifier;
import java.util.Set;
import java.util.TreeSet;

/** The class has the document's face, with what its calls throw, and nothing else but private. */
public final class FaceTest {
    private static final String[] FACE = {
        "VolumeShepherd()",
        "int addDisk(int) throws IllegalArgumentException, IllegalStateException",
        "int diskCount()",
        "char diskState(int) throws IndexOutOfBoundsException",
        "int usedOn(int) throws IndexOutOfBoundsException",
        "int addTenant(int,int) throws IllegalArgumentException, IllegalStateException",
        "int tenantCount()",
        "int setHurry(int) throws IllegalArgumentException",
        "int read(int,int) throws IndexOutOfBoundsException, IllegalStateException",
        "int write(int,int,int) throws "
                + "IndexOutOfBoundsException, IllegalArgumentException, IllegalStateException",
        "char stateOf(int) throws IndexOutOfBoundsException",
        "int answerTo(int) throws IndexOutOfBoundsException, NoSuchElementException",
        "int waitingOf(int) throws IndexOutOfBoundsException",
        "int servedOf(int) throws IndexOutOfBoundsException",
        "int creditsOf(int) throws IndexOutOfBoundsException",
        "int breachesOf(int) throws IndexOutOfBoundsException",
        "int pass(int) throws IllegalArgumentException, IllegalStateException",
        "int clock()",
        "int blocksOf(int) throws IndexOutOfBoundsException",
        "int copiesOf(int,int) throws IndexOutOfBoundsException",
        "int copiesByDisks(int,int) throws IndexOutOfBoundsException",
        "int diskOfCopy(int,int,int) throws IndexOutOfBoundsException, NoSuchElementException",
        "int valueOf(int,int) throws IndexOutOfBoundsException, NoSuchElementException",
        "boolean isLost(int,int) throws IndexOutOfBoundsException",
        "int lostBlocks()",
        "int degradedBlocks()",
        "boolean doesBear(int) throws IllegalArgumentException",
        "boolean doesBearByTrying(int) throws IllegalArgumentException",
        "int fail(int) throws IndexOutOfBoundsException, IllegalStateException",
        "int replace(int) throws IndexOutOfBoundsException, IllegalStateException",
        "int warn(int) throws IndexOutOfBoundsException, IllegalStateException",
        "boolean rot(int,int) throws IndexOutOfBoundsException, NoSuchElementException",
        "int scrub(int) throws IndexOutOfBoundsException, IllegalStateException",
        "int rottenOn(int) throws IndexOutOfBoundsException",
        "int rebuilt()",
        "int openRebuilds()",
        "double meanCopies() throws ArithmeticException",
        "float usedShare() throws ArithmeticException",
        "boolean isConsistent()",
        "int writeDisk(int) throws IndexOutOfBoundsException",
        "char lineAt(int) throws IndexOutOfBoundsException",
    };

    public static void main(String[] args) {
        Due due = new Due();
        due.is("the face", openMembers(), new TreeSet<>(Set.of(FACE)));
        int modifiers = VolumeShepherd.class.getModifiers();
        due.is("public", Modifier.isPublic(modifiers), true);
        due.is("final", Modifier.isFinal(modifiers), true);
        due.is("package", VolumeShepherd.class.getPackageName(), "");
        due.end();
    }

    private static Set<String> openMembers() {
        Set<String> open = new TreeSet<>();
        for (Constructor<?> constructor : VolumeShepherd.class.getDeclaredConstructors()) {
            addIfOpen(open, constructor, "VolumeShepherd");
        }
        for (Method method : VolumeShepherd.class.getDeclaredMethods()) {
            addIfOpen(open, method, method.getReturnType() + " " + method.getName());
        }
        for (Field field : VolumeShepherd.class.getDeclaredFields()) {
            if (!Modifier.isPrivate(field.getModifiers())) {
                open.add(field.toString());
            }
        }
        return open;
    }

    private static void addIfOpen(Set<String> open, Executable member, String name) {
        if (Modifier.isPrivate(member.getModifiers()) || member.isSynthetic()) {
            return;
        }
        StringBuilder types = new StringBuilder();
        for (Class<?> type : member.getParameterTypes()) {
            types.append(types.length() == 0 ? "" : ",").append(type);
        }
        String text = name + "(" + types + ")" + thrown(member);
        open.add(Modifier.isPublic(member.getModifiers()) ? text : "not public: " + text);
    }

    private static String thrown(Executable member) {
        StringBuilder text = new StringBuilder();
        for (Class<?> type : member.getExceptionTypes()) {
            text.append(text.length() == 0 ? " throws " : ", ").append(type.getSimpleName());
        }
        return text.toString();
    }
}
