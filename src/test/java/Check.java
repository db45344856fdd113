/** Compares answers with those that are due; end() makes the program fail if one was another. */
final class Check {
    private static int made = 0;
    private static int wrong = 0;

    private Check() {
    }

    static void same(String what, long got, long due) {
        made++;
        if (got != due) {
            wrong++;
            System.out.println(what + " answered " + got + ", due is " + due);
        }
    }

    static void yes(String what, boolean got) {
        same(what, got ? 1 : 0, 1);
    }

    static void no(String what, boolean got) {
        same(what, got ? 1 : 0, 0);
    }

    static void refusesArguments(String what, Runnable run) {
        throwsOne(what, IllegalArgumentException.class, run);
    }

    static void refusesState(String what, Runnable run) {
        throwsOne(what, IllegalStateException.class, run);
    }

    static void refusesIndex(String what, Runnable run) {
        throwsOne(what, IndexOutOfBoundsException.class, run);
    }

    private static void throwsOne(String what, Class<?> due, Runnable run) {
        made++;
        String got = "nothing";
        try {
            run.run();
        } catch (RuntimeException e) {
            got = e.getClass().getSimpleName();
        }
        if (!got.equals(due.getSimpleName())) {
            wrong++;
            System.out.println(what + " threw " + got + ", due is " + due.getSimpleName());
        }
    }

    /** A load that must end with a FAULT, and which part it must blame. */
    static void loadFault(String what, ModuleLoader x, int name, int fuel, int fault, int which) {
        refusesState(what, () -> x.load(name, fuel));
        same(what + ": fault(0)", x.fault(0), fault);
        same(what + ": fault(1)", x.fault(1), which);
        same(what + ": the tape's bytes", x.count(4), 0);
    }

    static void faults(String what, ModuleLoader x, int... due) {
        for (int i = 0; i < due.length; i++) {
            same(what + ": fault(" + i + ")", x.fault(i), due[i]);
        }
    }

    /** The bytes from "from" on are PROTECTED, those from "behind" on are not. */
    static void guarded(String what, ModuleLoader x, int from, int behind) {
        for (int address = from; address < behind + 24; address++) {
            same(what + ": isProtected(" + address + ")", x.isProtected(address) ? 1 : 0, address < behind ? 1 : 0);
        }
        same(what + ": isProtected(4095)", x.isProtected(4095) ? 1 : 0, 0);
    }

    static void end() {
        System.out.println(made + " answers looked at, " + wrong + " wrong");
        if (wrong != 0 || made == 0) {
            System.exit(1);
        }
    }
}
