import java.io.IOException;
import java.nio.file.Files;
import java.nio.file.Path;
import java.util.ArrayList;
import java.util.List;

/** README.md's examples: they do what they say, and they are these. Run it from the project's directory. */
public final class ReadmeTest {
    private static final int KADD = 0x6464616B;
    private static final int PLUS = 0x73756C70;
    private static final int MATH = 0x6874616D;
    private static final int MORE = 0x65726F6D;

    public static void main(String[] args) throws IOException {
        examplesDoWhatTheySay();
        namesAreWhatTheySay();
        readmeHasTheseExamples();
        Check.end();
    }

    private static void examplesDoWhatTheySay() {
        // README: a kernel
        ModuleLoader loader = new ModuleLoader();
        loader.poke(16, 0x00B50533);                     // add a0, a0, a1
        loader.poke(20, 0x00008067);                     // ret
        loader.symbol(KADD, 77, 16);                     // its name, its check, its address
        loader.seal();
        int sum = loader.call(KADD, 40, 2, 10);          // 42, with fuel for 10 instructions
        // README: end
        Check.same("sum", sum, 42);

        // README: a module
        int[] file = {
            1297040469,                                  // what each file begins with
            4, 1, 1, 1,                                  // SIZE; how many imports, exports, places
            ModuleLoader.NONE, ModuleLoader.NONE, 4,     // no INIT, no EXIT; GUARD
            0x0000006F,                                  // the image: a JAL to nowhere yet
            KADD, 77,                                    // import 0: a name and the check it must have
            PLUS, 5, 0,                                  // export 0: a name, its check, its offset
            4, 0, 0, 0,                                  // place 0: KIND 4 (JAL), offset, import 0, addend
        };
        for (int word : file) {
            loader.feed(word);
        }
        int address = loader.load(MATH, 100);            // 512: where its image lies
        int again = loader.call(PLUS, 40, 2, 10);        // 42, by the kernel's instructions
        int steps = loader.fault(3);                     // 3: that many instructions were run
        // README: end
        Check.same("address", address, 512);
        Check.same("again", again, 42);
        Check.same("steps", steps, 3);

        int why = 0;
        int which = 0;
        // README: a fault
        file[10] = 78;                                   // a check that "kadd" does not have
        file[11] = KADD;                                 // and an export that is there already
        for (int word : file) {
            loader.feed(word);
        }
        try {
            loader.load(MORE, 100);
        } catch (IllegalStateException e) {
            why = loader.fault(0);                       // 4: the check; the export would be 5
            which = loader.fault(1);                     // 0: import 0
        }
        loader.unload(MATH, 100);                        // its symbols and its room go with it
        // README: end
        Check.same("why", why, 4);
        Check.same("which", which, 0);
        Check.same("modules", loader.count(0), 0);
        Check.same("symbols", loader.count(1), 1);
        Check.same("rows", loader.count(2), 208);
    }

    private static void namesAreWhatTheySay() {
        Check.same("KADD", KADD, Asm.name("kadd"));
        Check.same("PLUS", PLUS, Asm.name("plus"));
        Check.same("MATH", MATH, Asm.name("math"));
        Check.same("MORE", MORE, Asm.name("more"));
    }

    private static void readmeHasTheseExamples() throws IOException {
        List<String> due = between("src/test/java/ReadmeTest.java", "// README: ", "// README: end");
        List<String> got = between("README.md", "```java", "```");
        Check.same("lines of README.md's examples", got.size(), due.size());
        for (int i = 0; i < Math.min(got.size(), due.size()); i++) {
            Check.yes("README.md has \"" + got.get(i) + "\" for \"" + due.get(i) + "\"", got.get(i).equals(due.get(i)));
        }
    }

    /** The lines between those that begin with the two marks, without their indentation. */
    private static List<String> between(String path, String begin, String end) throws IOException {
        List<String> lines = new ArrayList<>();
        boolean inside = false;
        for (String line : Files.readAllLines(Path.of(path))) {
            String text = line.strip();
            if (inside && text.startsWith(end)) {
                inside = false;
            } else if (inside) {
                lines.add(text);
            } else {
                inside = text.startsWith(begin);
            }
        }
        return lines;
    }
}
