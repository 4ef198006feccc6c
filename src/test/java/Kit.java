import java.util.ArrayList;
import java.util.List;

/** What the tests share: counting wrong answers, and reading all of a register. */
final class Kit {
    static final int DEVICES = 8;
    static final int LEAVES = 12;
    static final int GROUPS = 4;
    static final int NOTHING = Integer.MIN_VALUE;

    interface Call {
        int answer();
    }

    interface CallOf {
        int on(TwinRegister x);
    }

    private static int answers = 0;
    private static int wrong = 0;

    private Kit() {
    }

    static void due(String what, long got, long want) {
        answers++;
        if (got != want) {
            wrong++;
            System.out.println(what + " answered " + got + ", due is " + want);
        }
    }

    static void due(String what, boolean got, boolean want) {
        due(what, got ? 1 : 0, want ? 1 : 0);
    }

    static void due(String what, String got, String want) {
        answers++;
        if (!got.equals(want)) {
            wrong++;
            System.out.println(what + " answered " + got + ", due is " + want);
        }
    }

    /** The answer as text, or the exact class of what is thrown: a subclass would not be due. */
    static String told(Call call) {
        try {
            return Integer.toString(call.answer());
        } catch (RuntimeException e) {
            return e.getClass().getSimpleName();
        }
    }

    static int bits(int... numbers) {
        int found = 0;
        for (int number : numbers) {
            found |= 1 << number;
        }
        return found;
    }

    static int wishOne(TwinRegister x, int device, int leaf, int value) {
        x.put(leaf, value);
        return x.wish(device, -1);
    }

    static int reportOne(TwinRegister x, int device, int number, int leaf, int value) {
        x.put(leaf, value);
        return x.report(device, number);
    }

    /** All eight devices report the device's number for leaf 0. */
    static TwinRegister withReports() {
        TwinRegister x = new TwinRegister();
        for (int device = 0; device < DEVICES; device++) {
            reportOne(x, device, 1, 0, device);
        }
        return x;
    }

    /** Something of everything: a draft, a sleeper, refusals, groups, jobs in each state. */
    static TwinRegister busy() {
        TwinRegister x = withReports();
        x.setGroup(1, 0, 2, 6);
        for (int job = 0; job < 8; job++) {
            x.addJob(job % 4, 4 + job, job, 1 + job, 1 + job % 2);
        }
        x.wave();
        x.refuse(0, 4, 2);
        x.refuse(3, 7, 3);
        x.obey(1);
        x.wave();
        x.cancel(5);
        wishOne(x, 6, 1, 9);
        x.sleep(6);
        wishOne(x, 6, 2, 9);
        x.drop(1);
        x.put(9, 9);
        return x;
    }

    /** Reads everything that can be read: 357 calls at most, which change nothing. */
    static List<String> readings(TwinRegister x) {
        List<String> lines = new ArrayList<>();
        for (int device = 0; device < DEVICES; device++) {
            StringBuilder line = new StringBuilder("device " + device);
            line.append(" version ").append(x.version(device)).append(" heard ").append(x.heard(device));
            line.append(" differences ").append(x.differences(device)).append(' ').append(x.differencesAnew(device));
            for (int leaf = 0; leaf < LEAVES; leaf++) {
                line.append(" [").append(x.wished(device, leaf)).append(' ').append(x.reported(device, leaf));
                line.append(' ').append(x.why(device, leaf)).append(']');
            }
            lines.add(line.toString());
        }
        for (int group = 0; group < GROUPS; group++) {
            lines.add("group " + group + " members " + x.members(group));
        }
        int jobs = x.jobs();
        lines.add("jobs " + jobs);
        for (int job = 0; job < jobs; job++) {
            lines.add("job " + job + " state " + x.state(job) + " devices " + x.devices(job, 0) + " "
                    + x.devices(job, 1) + " " + x.devices(job, 2));
        }
        return lines;
    }

    /** Brings out what no call only reads: who sleeps, the numbers of the reports, the draft. Some 60 calls. */
    static List<String> hidden(TwinRegister x) {
        List<String> lines = new ArrayList<>();
        lines.add("draft has " + (x.put(11, 77) - 1) + " or one more");
        x.wish(7, -1);
        StringBuilder draft = new StringBuilder("draft wished of 7:");
        for (int leaf = 0; leaf < LEAVES; leaf++) {
            draft.append(' ').append(x.wished(7, leaf));
        }
        lines.add(draft.toString());
        for (int device = 0; device < DEVICES; device++) {
            lines.add("device " + device + " was awake " + x.sleep(device) + " unheard " + x.wake(device));
            lines.add("device " + device + " latest report " + latestReport(x, device));
        }
        return lines;
    }

    private static int latestReport(TwinRegister x, int device) {
        for (int number = 1; number < 10; number++) {
            if (x.report(device, number) != -1) {
                return number - 1;
            }
        }
        return NOTHING;
    }

    /** A hundred calls, drawn by a fixed rule, and their answers: they bring out what is hidden, too. */
    static List<String> future(TwinRegister x, int seed) {
        List<String> answers = new ArrayList<>();
        for (int device = 0; device < DEVICES; device++) {
            int number = 2 + device % 2;
            int each = device;
            answers.add(told(() -> seed % 2 == 0 ? x.wish(each, -1) : x.report(each, number)));
        }
        long state = seed;
        for (int call = 0; call < 100; call++) {
            state = state * 6364136223846793005L + 1442695040888963407L;
            int drawn = (int) (state >>> 34);
            answers.add(told(() -> drawnCall(x, drawn)));
        }
        return answers;
    }

    private static int drawnCall(TwinRegister x, int drawn) {
        int device = drawn / 12 % DEVICES;
        int leaf = drawn / 96 % LEAVES;
        int more = drawn / 1152;
        return switch (drawn % 12) {
            case 0, 1 -> x.put(leaf, more % 10 - 1);
            case 2 -> x.wish(device, -1);
            case 3 -> x.report(device, 1 + more % 4);
            case 4 -> x.obey(device);
            case 5 -> x.refuse(device, leaf, 1 + more % 9);
            case 6 -> x.sleep(device) ? 1 : 0;
            case 7 -> x.wake(device);
            case 8, 9 -> x.wave();
            case 10 -> x.members(device % GROUPS) + 1000 * x.differences(device);
            default -> x.jobs() > device ? x.devices(device, 1) + 1000 * x.devices(device, 2) : x.heard(device);
        };
    }

    static int answers() {
        return answers;
    }

    static void dueSame(String what, List<String> got, List<String> want) {
        due(what + " (lines)", got.size(), want.size());
        for (int line = 0; line < Math.min(got.size(), want.size()); line++) {
            due(what + ", line " + line, got.get(line), want.get(line));
        }
    }

    static void end(String test) {
        System.out.println(test + ": " + answers + " answers, " + wrong + " wrong");
        if (wrong != 0 || answers == 0) {
            System.exit(1);
        }
    }
}
