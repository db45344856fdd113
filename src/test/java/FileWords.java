import java.util.ArrayList;
import java.util.List;

/** A module's file in the making; what is not said is as plain as can be. */
final class FileWords {
    static final int MAGIC = 1297040469;

    private final List<Integer> image = new ArrayList<>();
    private final List<Integer> imports = new ArrayList<>();
    private final List<Integer> exports = new ArrayList<>();
    private final List<Integer> places = new ArrayList<>();
    private int init = -1;
    private int exit = -1;
    private int guard = 0;

    static FileWords of(int... words) {
        FileWords file = new FileWords();
        for (int word : words) {
            file.image.add(word);
        }
        return file;
    }

    /** An image of so many bytes, all 0. */
    static FileWords zeros(int bytes) {
        return of(new int[bytes / 4]);
    }

    FileWords init(int offset) {
        init = offset;
        return this;
    }

    FileWords exit(int offset) {
        exit = offset;
        return this;
    }

    FileWords guard(int bytes) {
        guard = bytes;
        return this;
    }

    FileWords imports(String name, int check) {
        return imports(Asm.name(name), check);
    }

    FileWords imports(int name, int check) {
        imports.add(name);
        imports.add(check);
        return this;
    }

    FileWords exports(String name, int check, int offset) {
        exports.add(Asm.name(name));
        exports.add(check);
        exports.add(offset);
        return this;
    }

    FileWords place(int kind, int offset, int source, int addend) {
        places.add(kind);
        places.add(offset);
        places.add(source);
        places.add(addend);
        return this;
    }

    List<Integer> words() {
        List<Integer> all = new ArrayList<>(List.of(MAGIC, 4 * image.size(), imports.size() / 2, exports.size() / 3,
            places.size() / 4, init, exit, guard));
        all.addAll(image);
        all.addAll(imports);
        all.addAll(exports);
        all.addAll(places);
        return all;
    }

    void feed(ModuleLoader x) {
        feed(x, words());
    }

    static void feed(ModuleLoader x, List<Integer> words) {
        for (int word : words) {
            x.feed(word);
        }
    }

    int load(ModuleLoader x, String name) {
        return load(x, name, 2000);
    }

    int load(ModuleLoader x, String name, int fuel) {
        feed(x);
        return x.load(Asm.name(name), fuel);
    }
}
