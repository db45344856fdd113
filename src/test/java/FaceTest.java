import java.lang.reflect.Constructor;
import java.lang.reflect.Field;
import java.lang.reflect.Method;
import java.lang.reflect.Modifier;
import java.util.Set;
import java.util.TreeSet;

/** The public face, and promise 1: a new object. */
public final class FaceTest {
    private static final String ARGUMENT_OR_STATE = " throws IllegalArgumentException,IllegalStateException";
    private static final Set<String> FACE = new TreeSet<>(Set.of(
        "void poke(int,int) throws IndexOutOfBoundsException,IllegalStateException",
        "boolean seal()",
        "void symbol(int,int,int)" + ARGUMENT_OR_STATE,
        "int feed(int)",
        "int feedByte(int)",
        "int load(int,int)" + ARGUMENT_OR_STATE,
        "int fault(int)",
        "void unload(int,int)" + ARGUMENT_OR_STATE,
        "int call(int,int,int,int)" + ARGUMENT_OR_STATE,
        "int peek(int) throws IndexOutOfBoundsException",
        "boolean isProtected(int)",
        "int register(int)",
        "int lookup(int,int)",
        "int module(int,int)",
        "int count(int)",
        "int at(int)"));

    public static void main(String[] args) {
        hasTheDocumentsFace();
        newObjectIsEmpty();
        objectsAreApart();
        Check.end();
    }

    private static void hasTheDocumentsFace() {
        Set<String> seen = new TreeSet<>();
        for (Method method : ModuleLoader.class.getDeclaredMethods()) {
            if (Modifier.isPublic(method.getModifiers())) {
                seen.add(method.toString().replace("public ", "").replace("ModuleLoader.", "").replace("java.lang.", ""));
            } else {
                Check.yes(method + " is private", Modifier.isPrivate(method.getModifiers()));
            }
        }
        Check.yes("the face " + seen, seen.equals(FACE));
        for (Field field : ModuleLoader.class.getDeclaredFields()) {
            Check.yes(field + " is private", Modifier.isPrivate(field.getModifiers()) != field.getName().equals("NONE"));
        }
        Constructor<?>[] constructors = ModuleLoader.class.getDeclaredConstructors();
        Check.same("constructors", constructors.length, 1);
        Check.yes("a final class", Modifier.isFinal(ModuleLoader.class.getModifiers()));
        Check.same("NONE", ModuleLoader.NONE, -1);
    }

    private static void newObjectIsEmpty() {
        for (int row = 0; row < 4096; row += 256) {
            ModuleLoader x = new ModuleLoader();
            for (int address = row; address < row + 256; address++) {
                Check.no("new: isProtected(" + address + ")", x.isProtected(address));
            }
            for (int address = row; address < row + 256; address += 4) {
                Check.same("new: peek(" + address + ")", x.peek(address), 0);
            }
        }
        ModuleLoader x = new ModuleLoader();
        for (int r = 0; r < 32; r++) {
            Check.same("new: register(" + r + ")", x.register(r), 0);
        }
        Check.faults("new", x, 0, -1, 0, 0, 0);
        Check.same("new: modules", x.count(0), 0);
        Check.same("new: symbols", x.count(1), 0);
        Check.same("new: free rows", x.count(2), 208);
        Check.same("new: free rows together", x.count(3), 208);
        Check.same("new: tape", x.count(4), 0);
        Check.same("new: at(0)", x.at(0), -1);
        Check.yes("new: is not sealed", x.seal());
    }

    private static void objectsAreApart() {
        ModuleLoader x = new ModuleLoader();
        ModuleLoader y = new ModuleLoader();
        Asm.kernel(x, "kern", 0, Asm.addi(5, 0, 7), Asm.RET);
        x.feed(1);
        x.seal();
        x.call(Asm.name("kern"), 1, 2, 9);
        Check.same("another object's peek(0)", y.peek(0), 0);
        Check.same("another object's symbols", y.count(1), 0);
        Check.same("another object's tape", y.count(4), 0);
        Check.same("another object's register", y.register(5), 0);
        Check.same("another object's fault(3)", y.fault(3), 0);
        Check.no("another object's isProtected(0)", y.isProtected(0));
    }
}
