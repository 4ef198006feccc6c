/** One test for each sentence of promises 14 to 24 that names a boundary case. */
public final class ReadingsBoundariesTest {
    private static final String NO_SUCH_DEVICE = "Throws `IndexOutOfBoundsException` if there is no such device";
    private static final String NO_SUCH_LEAF = "Throws `IndexOutOfBoundsException` if there is no such device or leaf";
    private static final String NO_SUCH_JOB = "Throws `IndexOutOfBoundsException` if there is no such job";

    private interface LeafReading {
        int on(TwinRegister x, int device, int leaf);
    }

    private ReadingsBoundariesTest() {
    }

    public static void main(String[] args) {
        version();
        heard();
        wished();
        reported();
        why();
        differences();
        differencesAnew();
        members();
        jobs();
        state();
        devices();
        Kit.end("ReadingsBoundariesTest");
    }

    private static void devicesOnly(Bounds.CallWith reading) {
        Bounds.takenEach("device", Bounds::ready, 0, 7, reading);
        Bounds.refusedEach("device", Bounds::ready, Bounds.outside(0, 7), reading, Bounds.INDEX);
        Bounds.refusedEach("new, device", TwinRegister::new, new int[] {-1, 8}, reading, Bounds.INDEX);
    }

    private static void leavesOnly(LeafReading reading) {
        devicesOnly((x, device) -> reading.on(x, device, 0));
        devicesOnly((x, device) -> reading.on(x, device, 11));
        Bounds.takenEach("leaf", Bounds::ready, 0, 11, (x, leaf) -> reading.on(x, 7, leaf));
        Bounds.refusedEach("leaf", Bounds::ready, Bounds.outside(0, 11),
                (x, leaf) -> reading.on(x, 7, leaf), Bounds.INDEX);
        Bounds.refused("both", Bounds::ready, x -> reading.on(x, 8, 12), Bounds.INDEX);
        Bounds.refused("a device's number for a leaf", Bounds::ready, x -> reading.on(x, 11, 7), Bounds.INDEX);
    }

    private static void jobsOnly(Bounds.CallWith reading) {
        for (int jobs = 0; jobs <= 8; jobs++) {
            int each = jobs;
            Bounds.takenEach("of " + jobs + ", job", () -> withJobs(each), 0, jobs - 1, reading);
            Bounds.refusedEach("of " + jobs + ", job", () -> withJobs(each), new int[] {-1, jobs, 8}, reading, Bounds.INDEX);
        }
        Bounds.refusedEach("of 8, job", () -> withJobs(8), Bounds.outside(0, 7), reading, Bounds.INDEX);
    }

    private static TwinRegister withJobs(int jobs) {
        TwinRegister x = Kit.withReports();
        for (int job = 0; job < jobs; job++) {
            x.addJob(0, 3 + job, 50, 1 + job, 1);
        }
        return x;
    }

    // ---- promises 14 and 15

    private static void version() {
        Bounds promise = new Bounds("Promise 14");
        promise.test("Returns the version of a device.", () -> {
            TwinRegister x = new TwinRegister();
            for (int device = 0; device < Kit.DEVICES; device++) {
                Bounds.due("0 at first", x.version(device), 0);
                for (int wishes = 0; wishes < device; wishes++) {
                    Kit.wishOne(x, device, 0, 0);
                }
            }
            x.sleep(7);
            for (int device = 0; device < Kit.DEVICES; device++) {
                Bounds.due("device " + device, x.version(device), device);
            }
        });
        promise.test(NO_SUCH_DEVICE, () -> devicesOnly((x, device) -> x.version(device)));
        promise.end();
    }

    private static void heard() {
        Bounds promise = new Bounds("Promise 15");
        promise.test("Returns the version that a device has heard.", () -> {
            TwinRegister x = new TwinRegister();
            for (int device = 0; device < Kit.DEVICES; device++) {
                Bounds.due("0 at first", x.heard(device), 0);
                for (int wishes = 0; wishes < device; wishes++) {
                    Kit.wishOne(x, device, 0, 0);
                }
                Bounds.due("awake, " + device, x.heard(device), device);
                x.sleep(device);
                Kit.wishOne(x, device, 0, 0);
                x.sleep(device);
                Bounds.due("asleep, " + device, x.heard(device), device);
            }
            x.wake(7);
            Bounds.due("awake again", x.heard(7), 8);
            Bounds.due("asleep still, nothing heard", x.heard(0), 0);
        });
        promise.test(NO_SUCH_DEVICE, () -> devicesOnly((x, device) -> x.heard(device)));
        promise.end();
    }

    // ---- promises 16 to 18

    private static void wished() {
        Bounds promise = new Bounds("Promise 16");
        promise.test("Returns the value;", () -> {
            for (int value = 0; value < 100; value++) {
                TwinRegister x = Kit.withReports();
                Kit.wishOne(x, 0, 11, value);
                Bounds.due("value " + value, x.wished(0, 11), value);
                x.addJob(0, 0, value, 8, 8);
                x.wave();
                Bounds.due("by a job, value " + value, x.wished(7, 0), value);
            }
        });
        promise.test("-1 for none.", () -> {
            TwinRegister x = Kit.withReports();
            Bounds.due("at first, though reported", x.wished(7, 0), -1);
            Kit.wishOne(x, 7, 0, 0);
            Kit.wishOne(x, 7, 0, -1);
            Bounds.due("removed", x.wished(7, 0), -1);
            Kit.wishOne(x, 7, 11, 0);
            x.drop(2);
            x.wish(7, -1);
            Bounds.due("dropped", x.wished(7, 11), -1);
        });
        promise.test(NO_SUCH_LEAF, () -> leavesOnly((x, device, leaf) -> x.wished(device, leaf)));
        promise.end("Returns what is wished of a device for a leaf.");
    }

    private static void reported() {
        Bounds promise = new Bounds("Promise 17");
        promise.test("Returns the value;", () -> {
            for (int value = 0; value < 100; value++) {
                TwinRegister x = new TwinRegister();
                Kit.reportOne(x, 0, 1, 11, value);
                Bounds.due("value " + value, x.reported(0, 11), value);
                Kit.wishOne(x, 7, 0, value);
                x.obey(7);
                Bounds.due("obeyed, value " + value, x.reported(7, 0), value);
            }
        });
        promise.test("-1 for none.", () -> {
            TwinRegister x = new TwinRegister();
            Kit.wishOne(x, 7, 0, 0);
            Bounds.due("at first, though wished", x.reported(7, 0), -1);
            x.obey(7);
            Kit.reportOne(x, 7, 2, 0, -1);
            Bounds.due("removed", x.reported(7, 0), -1);
            Kit.reportOne(x, 7, 3, 11, 0);
            x.drop(2);
            x.report(7, 4);
            Bounds.due("dropped", x.reported(7, 11), -1);
        });
        promise.test(NO_SUCH_LEAF, () -> leavesOnly((x, device, leaf) -> x.reported(device, leaf)));
        promise.end("Returns what a device has reported for a leaf.");
    }

    private static void why() {
        Bounds promise = new Bounds("Promise 18");
        promise.test("Returns the reason;", () -> {
            TwinRegister x = new TwinRegister();
            Bounds.fillDraft(x, 0);
            x.wish(7, -1);
            for (int leaf = 0; leaf < Kit.LEAVES; leaf++) {
                x.refuse(7, leaf, 9 - leaf % 9);
                Bounds.due("leaf " + leaf, x.why(7, leaf), 9 - leaf % 9);
            }
            Kit.reportOne(x, 7, 1, 11, 0);
            Bounds.due("though reported as wished", x.why(7, 11), 7);
            x.sleep(7);
            Bounds.due("asleep", x.why(7, 0), 9);
        });
        promise.test("0 if it did not, or that was taken back.", () -> {
            TwinRegister x = Bounds.ready();
            x.setGroup(0, 1, 0, 99);
            x.addJob(0, 0, 41, 1, 1);
            Bounds.due("did not, though it differs", x.why(0, 0), 0);
            Bounds.due("did not, nothing wished", x.why(0, 11), 0);
            Bounds.thrown("a refused call", x, r -> r.refuse(0, 11, 1), Bounds.STATE);
            Bounds.due("did not, as that threw", x.why(0, 11), 0);
            x.refuse(0, 0, 9);
            x.refuse(7, 0, 8);
            x.wave();
            Bounds.due("taken back by a job's wish", x.why(0, 0), 0);
            Bounds.due("not of one that is not started", x.why(7, 0), 8);
            Kit.wishOne(x, 7, 0, 40);
            Bounds.due("taken back by a wish", x.why(7, 0), 0);
            x.refuse(7, 0, 8);
            x.drop(0);
            x.wish(7, -1);
            Bounds.due("taken back by a removal", x.why(7, 0), 0);
        });
        promise.test(NO_SUCH_LEAF, () -> leavesOnly((x, device, leaf) -> x.why(device, leaf)));
        promise.end("Returns why a device refused a leaf.");
    }

    // ---- promises 19 and 20

    private static void eachLeafAsABit(Bounds.CallWith reading) {
        for (int leaf = 0; leaf < Kit.LEAVES; leaf++) {
            TwinRegister x = new TwinRegister();
            Bounds.due("none", reading.on(x, 7), 0);
            Kit.wishOne(x, 7, leaf, 0);
            Bounds.due("leaf " + leaf, reading.on(x, 7), 1 << leaf);
            Bounds.due("of another device", reading.on(x, 6), 0);
            Kit.reportOne(x, 7, 1, leaf, 99);
            Bounds.due("another one reported, leaf " + leaf, reading.on(x, 7), 1 << leaf);
            x.refuse(7, leaf, 1);
            Bounds.due("refused " + leaf, reading.on(x, 7), 0);
            Bounds.fillDraft(x, 99);
            x.wish(7, -1);
            Bounds.due("all but leaf " + leaf, reading.on(x, 7), Bounds.ALL_LEAVES - (1 << leaf));
            Kit.reportOne(x, 7, 2, leaf, -1);
            Bounds.due("all", reading.on(x, 7), Bounds.ALL_LEAVES);
            x.obey(7);
            Bounds.due("none again", reading.on(x, 7), 0);
            x.drop(leaf / 4);
            x.report(7, 4);
            Bounds.due("a section", reading.on(x, 7), 15 << leaf / 4 * 4);
            Kit.wishOne(x, 7, leaf, -1);
            Bounds.due("no more wished " + leaf, reading.on(x, 7), (15 << leaf / 4 * 4) - (1 << leaf));
        }
    }

    private static void differences() {
        Bounds promise = new Bounds("Promise 19");
        promise.test("Returns the leaves of a device that differ, as bits, as they are kept.",
                () -> eachLeafAsABit((x, device) -> x.differences(device)));
        promise.test(NO_SUCH_DEVICE, () -> devicesOnly((x, device) -> x.differences(device)));
        promise.end();
    }

    private static void differencesAnew() {
        Bounds promise = new Bounds("Promise 20");
        promise.test("Returns the same, by comparing afresh.",
                () -> eachLeafAsABit((x, device) -> x.differencesAnew(device)));
        promise.test(NO_SUCH_DEVICE, () -> devicesOnly((x, device) -> x.differencesAnew(device)));
        promise.end();
    }

    // ---- promise 21

    private static void members() {
        Bounds promise = new Bounds("Promise 21");
        promise.test("Returns the members of a group, as bits.", () -> {
            for (int group = 0; group < Kit.GROUPS; group++) {
                TwinRegister x = new TwinRegister();
                Bounds.due("empty", x.members(group), 0);
                for (int device = 0; device < Kit.DEVICES; device++) {
                    Kit.reportOne(x, device, 1, 0, 99);
                    Bounds.due("up to device " + device, x.members(group), (2 << device) - 1);
                }
                x.setGroup(group, 0, 0, 98);
                Bounds.due("empty, by another greatest one", x.members(group), 0);
                Kit.reportOne(x, 7, 2, 0, 98);
                Bounds.due("the last device", x.members(group), 128);
                Kit.reportOne(x, 0, 2, 0, 0);
                Bounds.due("the first device too", x.members(group), 129);
                Kit.reportOne(x, 7, 3, 0, -1);
                Bounds.due("none reported", x.members(group), 1);
                Kit.reportOne(x, 0, 2, 0, 99);
                Bounds.due("a doubled report", x.members(group), 1);
            }
        });
        promise.test("Throws `IndexOutOfBoundsException` if there is no such group", () -> {
            Bounds.takenEach("group", Bounds::ready, 0, 3, (x, group) -> x.members(group));
            Bounds.refusedEach("group", Bounds::ready, Bounds.outside(0, 3),
                    (x, group) -> x.members(group), Bounds.INDEX);
        });
        promise.end();
    }

    // ---- promises 22 to 24

    private static void jobs() {
        Bounds promise = new Bounds("Promise 22");
        promise.test("Returns how many jobs there are.", () -> {
            TwinRegister x = Kit.withReports();
            for (int jobs = 0; jobs < 8; jobs++) {
                Bounds.due("before another", x.jobs(), jobs);
                Bounds.thrown("a refused one", x, r -> r.addJob(0, 0, 0, 1, 9), Bounds.ARGUMENT);
                Bounds.due("behind a refused one", x.jobs(), jobs);
                x.addJob(0, 1, 5, 8, 1);
            }
            Bounds.due("eight", x.jobs(), 8);
            Bounds.thrown("a ninth", x, r -> r.addJob(0, 0, 0, 1, 1), Bounds.STATE);
            x.wave();
            x.cancel(0);
            x.refuse(0, 1, 1);
            x.wave();
            Bounds.due("one stopped", x.state(1), 1);
            Bounds.due("stopped and cancelled ones count", x.jobs(), 8);
        });
        promise.end();
    }

    private static void state() {
        Bounds promise = new Bounds("Promise 23");
        promise.test("Returns 0 running, 1 stopped, 2 cancelled.", () -> {
            for (int job = 0; job < 8; job++) {
                TwinRegister x = withJobs(8);
                Bounds.due("running at first", x.state(job), 0);
                x.wave();
                Bounds.due("running behind a wave", x.state(job), 0);
                x.refuse(0, 3 + job, 1);
                Bounds.due("running, at the bound", x.state(job), 0);
                x.cancel((job + 1) % 8);
                x.wave();
                for (int other = 0; other < 8; other++) {
                    int want = other == job ? 1 : other == (job + 1) % 8 ? 2 : 0;
                    Bounds.due("job " + other, x.state(other), want);
                }
                int each = job;
                Bounds.thrown("stopped", x, r -> r.cancel(each), Bounds.STATE);
                Bounds.due("stopped stays", x.state(job), 1);
                x.refuse(0, 3 + (job + 1) % 8, 1);
                x.wave();
                Bounds.due("cancelled stays", x.state((job + 1) % 8), 2);
            }
        });
        promise.test(NO_SUCH_JOB, () -> jobsOnly((x, job) -> x.state(job)));
        promise.end("Returns the state of a job.");
    }

    private static void devices() {
        Bounds promise = new Bounds("Promise 24");
        promise.test("- `job`: the job", () -> {
            TwinRegister x = withJobs(8);
            x.wave();
            for (int job = 0; job < 8; job++) {
                Bounds.due("job " + job, x.devices(job, 0), (2 << job) - 1);
            }
        });
        promise.test("- `kind`: 0 those that it has started, 1 of these those that are done, 2 those that have failed",
                ReadingsBoundariesTest::kinds);
        promise.test("Returns the devices.", () -> {
            for (int device = 0; device < Kit.DEVICES; device++) {
                TwinRegister x = Kit.withReports();
                x.setGroup(3, 0, device, device);
                x.addJob(3, 5, 30, 8, 8);
                Bounds.due("none yet", x.devices(0, 0), 0);
                x.wave();
                Bounds.due("one " + device, x.devices(0, 0), 1 << device);
                Bounds.due("none done", x.devices(0, 1), 0);
                x.obey(device);
                x.wave();
                Bounds.due("one done " + device, x.devices(0, 1), 1 << device);
                Bounds.due("none failed", x.devices(0, 2), 0);
            }
        });
        promise.test(NO_SUCH_JOB, () -> {
            for (int kind = 0; kind < 3; kind++) {
                int each = kind;
                jobsOnly((x, job) -> x.devices(job, each));
            }
            Bounds.refusedEach("a wrong kind, job", () -> withJobs(1), new int[] {-1, 1, 8},
                    (x, job) -> x.devices(job, 3),
                    Bounds.INDEX);
        });
        promise.test("Throws `IllegalArgumentException` if kind is out of range", () -> {
            Bounds.takenEach("kind", Bounds::ready, 0, 2, (x, kind) -> x.devices(0, kind));
            Bounds.refusedEach("kind", Bounds::ready, Bounds.outside(0, 2),
                    (x, kind) -> x.devices(0, kind), Bounds.ARGUMENT);
            Bounds.refusedEach("of a cancelled one, kind", Kit::busy, new int[] {-1, 3},
                    (x, kind) -> x.devices(5, kind),
                    Bounds.ARGUMENT);
        });
        promise.end("Returns devices of a job, as bits.");
    }

    private static void dueKinds(String what, TwinRegister x, int started, int done, int failed) {
        Bounds.due(what + ", started", x.devices(0, 0), started);
        Bounds.due(what + ", done", x.devices(0, 1), done);
        Bounds.due(what + ", failed", x.devices(0, 2), failed);
    }

    private static void kinds() {
        TwinRegister x = Bounds.withJob(4, 8);
        dueKinds("ahead of all waves", x, 0, 0, 0);
        x.wave();
        dueKinds("one wave", x, 15, 0, 0);
        for (int device = 0; device < 4; device++) {
            x.obey(device);
        }
        dueKinds("obeyed, no wave", x, 15, 0, 0);
        Kit.reportOne(x, 7, 2, 5, 30);
        x.wave();
        dueKinds("all done that were started ahead", x, 255, 15, 0);
        for (int device = 4; device < 7; device++) {
            x.refuse(device, 5, 9);
        }
        dueKinds("refused, no wave", x, 255, 15, 0);
        x.wave();
        dueKinds("three failed", x, 255, 15 + 128, 16 + 32 + 64);
        x.cancel(0);
        dueKinds("cancelled", x, 255, 15 + 128, 16 + 32 + 64);

        TwinRegister y = Bounds.withJob(8, 8);
        y.wave();
        for (int device = 0; device < Kit.DEVICES; device++) {
            y.refuse(device, 5, 1);
        }
        y.wave();
        dueKinds("all failed, stopped", y, 255, 0, 255);
        Bounds.due("stopped", y.state(0), 1);
    }
}
