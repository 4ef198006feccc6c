/** Long runs of calls, drawn by a fixed rule, each answer held against the model's. */
public final class RandomRunsTest {
    private static final int RUNS = 4000;
    private static final int CALLS = 512;
    /** So many changing calls leave room for all readings within the 512. */
    private static final int CALLS_AHEAD_OF_READINGS = 150;

    private long seed;
    private int leaves;
    private int values;
    private TwinRegister x;
    private Model model;

    private RandomRunsTest(long seed) {
        this.seed = seed * 0x9E3779B97F4A7C15L;
    }

    public static void main(String[] args) {
        for (int run = 0; run < RUNS; run++) {
            new RandomRunsTest(run * 7919L + 17).run("run " + run, run % 2 == 0);
        }
        Kit.end("RandomRunsTest");
    }

    private void run(String name, boolean readAll) {
        x = new TwinRegister();
        model = new Model();
        // Few leaves and values in some runs, so that wishes, reports and jobs meet.
        leaves = 1 + below(12);
        values = 2 + below(readAll ? 4 : 12);
        int calls = readAll ? below(CALLS_AHEAD_OF_READINGS) : CALLS;
        for (int call = 0; call < calls; call++) {
            oneCall(name + ", call " + call);
        }
        if (readAll) {
            readAll(name);
        }
    }

    private int below(int end) {
        seed = seed * 6364136223846793005L + 1442695040888963407L;
        return (int) ((seed >>> 33) % end);
    }

    /** Mostly a number from least to greatest, at times one beside that or far out. */
    private int from(int least, int greatest) {
        int way = below(60);
        if (way == 0) {
            return least - 1;
        }
        if (way == 1) {
            return greatest + 1;
        }
        if (way == 2) {
            return below(2) == 0 ? Integer.MIN_VALUE + below(3) : Integer.MAX_VALUE - below(3);
        }
        return least + below(greatest - least + 1);
    }

    private int device() {
        return from(0, 7);
    }

    private int leaf() {
        return from(0, leaves - 1);
    }

    private int value() {
        return below(30) == 0 ? from(0, 99) : from(0, values - 1);
    }

    private int job() {
        return from(0, Math.max(0, model.jobs() - 1));
    }

    private int number(int device) {
        int way = below(8);
        if (way == 0 || device < 0 || device > 7) {
            return from(1, 5);
        }
        int next = model.latestReport(device) + 1;
        return way == 1 ? next + 1 : way == 2 ? next - 1 : next;
    }

    private void both(String call, Kit.Call got, Kit.Call want) {
        Kit.due(call, Kit.told(got), Kit.told(want));
    }

    private void oneCall(String at) {
        int way = below(100);
        if (way < 20) {
            int leaf = leaf();
            int value = below(5) == 0 ? -1 : value();
            both(at + " put(" + leaf + ", " + value + ")", () -> x.put(leaf, value), () -> model.put(leaf, value));
        } else if (way < 22) {
            int section = from(0, 2);
            both(at + " drop(" + section + ")", () -> x.drop(section), () -> model.drop(section));
        } else if (way < 32) {
            int device = device();
            int expected = below(3) == 0 ? from(0, 5) : -1;
            both(at + " wish(" + device + ", " + expected + ")",
                    () -> x.wish(device, expected), () -> model.wish(device, expected));
        } else if (way < 48) {
            int device = device();
            int number = number(device);
            both(at + " report(" + device + ", " + number + ")",
                    () -> x.report(device, number), () -> model.report(device, number));
        } else if (way < 86) {
            changeMore(at, way);
        } else {
            readOne(at);
        }
    }

    private void changeMore(String at, int way) {
        if (way < 53) {
            int device = device();
            both(at + " obey(" + device + ")", () -> x.obey(device), () -> model.obey(device));
        } else if (way < 62) {
            int device = device();
            int leaf = leaf();
            int reason = from(1, 9);
            both(at + " refuse(" + device + ", " + leaf + ", " + reason + ")",
                    () -> x.refuse(device, leaf, reason), () -> model.refuse(device, leaf, reason));
        } else if (way < 65) {
            int device = device();
            both(at + " sleep(" + device + ")", () -> x.sleep(device) ? 1 : 0, () -> model.sleep(device) ? 1 : 0);
        } else if (way < 70) {
            int device = device();
            both(at + " wake(" + device + ")", () -> x.wake(device), () -> model.wake(device));
        } else if (way < 74) {
            int group = from(0, 3);
            int leaf = leaf();
            int low = value();
            int high = below(4) == 0 ? value() : from(Math.min(Math.max(low, 0), 99), 99);
            both(at + " setGroup(" + group + ", " + leaf + ", " + low + ", " + high + ")",
                    () -> x.setGroup(group, leaf, low, high), () -> model.setGroup(group, leaf, low, high));
        } else if (way < 77) {
            int group = from(0, 3);
            int leaf = leaf();
            int value = value();
            int rate = from(1, 8);
            int bound = from(1, 8);
            both(at + " addJob(" + group + ", " + leaf + ", " + value + ", " + rate + ", " + bound + ")",
                    () -> x.addJob(group, leaf, value, rate, bound),
                    () -> model.addJob(group, leaf, value, rate, bound));
        } else if (way < 85) {
            both(at + " wave()", () -> x.wave(), () -> model.wave());
        } else if (below(3) == 0) {
            int job = job();
            both(at + " cancel(" + job + ")", () -> x.cancel(job), () -> model.cancel(job));
        }
    }

    private void readOne(String at) {
        int device = device();
        int leaf = leaf();
        int group = from(0, 3);
        int job = job();
        int kind = from(0, 2);
        switch (below(11)) {
            case 0 -> both(at + " version", () -> x.version(device), () -> model.version(device));
            case 1 -> both(at + " heard", () -> x.heard(device), () -> model.heard(device));
            case 2 -> both(at + " wished", () -> x.wished(device, leaf), () -> model.wished(device, leaf));
            case 3 -> both(at + " reported", () -> x.reported(device, leaf), () -> model.reported(device, leaf));
            case 4 -> both(at + " why", () -> x.why(device, leaf), () -> model.why(device, leaf));
            case 5 -> both(at + " differences", () -> x.differences(device), () -> model.differences(device));
            case 6 -> both(at + " differencesAnew", () -> x.differencesAnew(device), () -> model.differences(device));
            case 7 -> both(at + " members", () -> x.members(group), () -> model.members(group));
            case 8 -> both(at + " jobs", () -> x.jobs(), () -> model.jobs());
            case 9 -> both(at + " state", () -> x.state(job), () -> model.state(job));
            default -> both(at + " devices", () -> x.devices(job, kind), () -> model.devices(job, kind));
        }
    }

    private void readAll(String name) {
        for (int device = 0; device < Kit.DEVICES; device++) {
            String at = name + " at its end, device " + device;
            Kit.due(at + " version", x.version(device), model.version(device));
            Kit.due(at + " heard", x.heard(device), model.heard(device));
            Kit.due(at + " differences", x.differences(device), model.differences(device));
            Kit.due(at + " differencesAnew", x.differencesAnew(device), model.differences(device));
            for (int leaf = 0; leaf < Kit.LEAVES; leaf++) {
                Kit.due(at + " wished " + leaf, x.wished(device, leaf), model.wished(device, leaf));
                Kit.due(at + " reported " + leaf, x.reported(device, leaf), model.reported(device, leaf));
                Kit.due(at + " why " + leaf, x.why(device, leaf), model.why(device, leaf));
            }
        }
        for (int group = 0; group < Kit.GROUPS; group++) {
            Kit.due(name + " at its end, members " + group, x.members(group), model.members(group));
        }
        Kit.due(name + " at its end, jobs", x.jobs(), model.jobs());
        for (int job = 0; job < model.jobs(); job++) {
            Kit.due(name + " at its end, state " + job, x.state(job), model.state(job));
            for (int kind = 0; kind < 3; kind++) {
                Kit.due(name + " at its end, devices " + job, x.devices(job, kind), model.devices(job, kind));
            }
        }
    }
}
