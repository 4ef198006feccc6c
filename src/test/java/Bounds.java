import java.util.ArrayList;
import java.util.LinkedHashSet;
import java.util.List;
import java.util.Set;

/**
 * What the boundary tests share: a test is filed under the sentence of the document that it is
 * for and the promises that the sentence belongs to, and no sentence may be left without one.
 */
final class Bounds {
    static final String INDEX = "IndexOutOfBoundsException";
    static final String ARGUMENT = "IllegalArgumentException";
    static final String STATE = "IllegalStateException";
    static final int LEAST = Integer.MIN_VALUE;
    static final int MOST = Integer.MAX_VALUE;
    static final int ALL_DEVICES = 255;
    static final int ALL_LEAVES = 4095;

    private static final int FUTURES = 6;

    interface Setup {
        TwinRegister made();
    }

    interface CallWith {
        int on(TwinRegister x, int number);
    }

    private final String section;
    private final Set<String> tested = new LinkedHashSet<>();
    private static String current = "";

    Bounds(String section) {
        this.section = section;
    }

    /** For a section that is no promise itself: the promises that the sentence belongs to are told. */
    void test(String promises, String sentence, Runnable body) {
        run(section + " (of promises " + promises + ")", sentence, body);
    }

    void test(String sentence, Runnable body) {
        run(section, sentence, body);
    }

    private void run(String place, String sentence, Runnable body) {
        current = place + ", \"" + sentence + "\": ";
        int before = Kit.answers();
        body.run();
        Kit.due(current + "asks something", Kit.answers() > before, true);
        Kit.due(current + "has one test", tested.add(sentence), true);
    }

    /** Every sentence of the section has a test, or is named here as one that tells no boundary. */
    void end(String... withoutBoundary) {
        Set<String> due = new LinkedHashSet<>(Document.sentences(section));
        Kit.due(section + " has sentences", due.isEmpty(), false);
        Set<String> had = new LinkedHashSet<>(tested);
        for (String sentence : withoutBoundary) {
            Kit.due(section + ", named once: " + sentence, had.add(sentence), true);
        }
        for (String sentence : due) {
            Kit.due(section + ", has a test or is named without one: " + sentence, had.contains(sentence), true);
        }
        for (String sentence : had) {
            Kit.due(section + ", stands in the document: " + sentence, due.contains(sentence), true);
        }
    }

    static void due(String what, int got, int want) {
        Kit.due(current + what, got, want);
    }

    static void due(String what, boolean got, boolean want) {
        Kit.due(current + what, got, want);
    }

    static void thrown(String what, TwinRegister x, Kit.CallOf call, String want) {
        Kit.due(current + what, Kit.told(() -> call.on(x)), want);
    }

    static void taken(String what, TwinRegister x, Kit.CallOf call) {
        String told = Kit.told(() -> call.on(x));
        Kit.due(current + what + " " + told, told.endsWith("Exception"), false);
    }

    /** The call throws, and then all is as if it had not been: what is told, and what is told later. */
    static void refused(String what, Setup setup, Kit.CallOf call, String want) {
        TwinRegister x = setup.made();
        thrown(what, x, call, want);
        String behind = current + what + ", behind it";
        Kit.dueSame(behind, Kit.readings(x), Kit.readings(setup.made()));
        for (int seed = 1; seed <= FUTURES; seed++) {
            TwinRegister y = setup.made();
            Kit.told(() -> call.on(y));
            Kit.dueSame(behind + ", future " + seed, Kit.future(y, seed), Kit.future(setup.made(), seed));
        }
    }

    static void refusedEach(String what, Setup setup, int[] numbers, CallWith call, String want) {
        for (int number : numbers) {
            refused(what + " " + number, setup, x -> call.on(x, number), want);
        }
    }

    /** Each number from the least to the greatest one is taken. */
    static void takenEach(String what, Setup setup, int least, int greatest, CallWith call) {
        for (int number = least; number <= greatest; number++) {
            int each = number;
            taken(what + " " + number, setup.made(), x -> call.on(x, each));
        }
    }

    /** Numbers beside the range and far out, and those that a wrap-around or a mask would bring in. */
    static int[] outside(int least, int greatest) {
        int[] steps = {4, 8, 12, 16, 32, 64, 128, 256, 65536, 1 << 30, 3 << 29, 1 << 31};
        List<Integer> found = new ArrayList<>(List.of(least - 1, greatest + 1, LEAST, LEAST + 1, MOST - 1, MOST));
        for (int step : steps) {
            found.add(least + step);
            found.add(greatest - step);
        }
        return found.stream().mapToInt(number -> number)
                .filter(number -> number < least || number > greatest).distinct().toArray();
    }

    /** A draft of leaf 3; for each device leaf 0 differs, and leaf 1 is reported, report 1; one job. */
    static TwinRegister ready() {
        TwinRegister x = new TwinRegister();
        for (int device = 0; device < Kit.DEVICES; device++) {
            Kit.wishOne(x, device, 0, 40);
            Kit.reportOne(x, device, 1, 1, device);
        }
        for (int group = 0; group < Kit.GROUPS; group++) {
            x.setGroup(group, 1, group, 5 + group);
        }
        x.addJob(1, 2, 50, 3, 2);
        x.put(3, 33);
        return x;
    }

    /** Ready, but all devices sleep. */
    static TwinRegister readyAsleep() {
        TwinRegister x = ready();
        for (int device = 0; device < Kit.DEVICES; device++) {
            x.sleep(device);
        }
        return x;
    }

    /** All leaves in the draft. */
    static void fillDraft(TwinRegister x, int value) {
        for (int leaf = 0; leaf < Kit.LEAVES; leaf++) {
            x.put(leaf, value);
        }
    }

    /** All devices reported; a job of group 0, all devices, for leaf 5 and the value 30. */
    static TwinRegister withJob(int rate, int bound) {
        TwinRegister x = Kit.withReports();
        x.addJob(0, 5, 30, rate, bound);
        return x;
    }
}
