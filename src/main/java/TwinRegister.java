/**
 * A register of device twins. ../shared/DOC.md says what each call does; the comments here
 * only say why it is done so.
 */
public final class TwinRegister {
    private static final int DEVICES = 8;
    private static final int LEAVES = 12;
    private static final int SECTIONS = 3;
    private static final int SECTION_LEAVES = 4;
    private static final int GROUPS = 4;
    private static final int JOBS = 8;

    private static final int NONE = -1;
    private static final int GREATEST_VALUE = 99;
    private static final int GREATEST_REASON = 9;
    private static final int GREATEST_RATE = 8;
    private static final int GREATEST_BOUND = 8;
    private static final int NOT_REFUSED = 0;
    private static final int ANY_VERSION = -1;
    private static final int DOUBLED = -1;

    private static final int RUNNING = 0;
    private static final int STOPPED = 1;
    private static final int CANCELLED = 2;

    private static final int KIND_STARTED = 0;
    private static final int KIND_DONE = 1;
    private static final int KIND_FAILED = 2;

    private final Draft draft;
    private final Device[] deviceRows;
    private final Group[] groupRows;
    private final Job[] jobRows;
    private int jobCount;

    // All rows are made here and used again, so that no later call makes an object.
    public TwinRegister() {
        draft = new Draft();
        deviceRows = new Device[DEVICES];
        for (int device = 0; device < DEVICES; device++) {
            deviceRows[device] = new Device();
        }
        groupRows = new Group[GROUPS];
        for (int group = 0; group < GROUPS; group++) {
            groupRows[group] = new Group();
        }
        jobRows = new Job[JOBS];
        for (int job = 0; job < JOBS; job++) {
            jobRows[job] = new Job();
        }
        jobCount = 0;
    }

    // ---- the draft

    public int put(int leaf, int value) throws IndexOutOfBoundsException, IllegalArgumentException {
        requireLeaf(leaf);
        if (value != NONE) {
            requireInRange(value, 0, GREATEST_VALUE);
        }
        draft.assign(leaf, value);
        return draft.count();
    }

    public int drop(int section) throws IndexOutOfBoundsException {
        if (section < 0 || section >= SECTIONS) {
            throw new IndexOutOfBoundsException("there is no such section");
        }
        int first = section * SECTION_LEAVES;
        for (int leaf = first; leaf < first + SECTION_LEAVES; leaf++) {
            draft.assign(leaf, NONE);
        }
        return draft.count();
    }

    // ---- wishes and reports

    public int wish(int device, int expected) throws IndexOutOfBoundsException, IllegalStateException {
        Device twin = deviceAt(device);
        if (draft.count() == 0) {
            throw new IllegalStateException("the draft has no leaves");
        }
        if (expected != ANY_VERSION && expected != twin.latestVersion) {
            throw new IllegalStateException("the version is another one");
        }
        mergeWish(twin);
        twin.latestVersion++;
        draft.empty();
        return twin.latestVersion;
    }

    public int report(int device, int number)
            throws IndexOutOfBoundsException, IllegalArgumentException, IllegalStateException {
        Device twin = deviceAt(device);
        requireInRange(number, 1, twin.latestReport + 1);
        requireAwake(twin);
        boolean doubled = number <= twin.latestReport;
        if (!doubled) {
            mergeReport(twin);
            twin.latestReport = number;
        }
        draft.empty();
        return doubled ? DOUBLED : Integer.bitCount(twin.differing);
    }

    public int obey(int device) throws IndexOutOfBoundsException, IllegalStateException {
        Device twin = deviceAt(device);
        requireAwake(twin);
        int obeyed = 0;
        for (int leaf = 0; leaf < LEAVES; leaf++) {
            if (twin.differsAt(leaf)) {
                twin.takeReport(leaf, twin.wishedValues[leaf]);
                obeyed++;
            }
        }
        twin.latestReport++;
        return obeyed;
    }

    public int refuse(int device, int leaf, int reason)
            throws IndexOutOfBoundsException, IllegalArgumentException, IllegalStateException {
        Device twin = deviceAt(device);
        requireLeaf(leaf);
        requireInRange(reason, 1, GREATEST_REASON);
        requireAwake(twin);
        if (!twin.differsAt(leaf)) {
            throw new IllegalStateException("the leaf does not differ");
        }
        twin.takeRefusal(leaf, reason);
        return Integer.bitCount(twin.differing);
    }

    public boolean sleep(int device) throws IndexOutOfBoundsException {
        Device twin = deviceAt(device);
        boolean wasAwake = !twin.asleep;
        // One that sleeps already has heard nothing since it fell asleep.
        if (wasAwake) {
            twin.asleep = true;
            twin.versionBeforeSleep = twin.latestVersion;
        }
        return wasAwake;
    }

    public int wake(int device) throws IndexOutOfBoundsException {
        Device twin = deviceAt(device);
        int unheard = twin.latestVersion - twin.heardVersion();
        twin.asleep = false;
        return unheard;
    }

    // ---- groups and jobs

    public int setGroup(int group, int leaf, int low, int high)
            throws IndexOutOfBoundsException, IllegalArgumentException {
        Group chosen = groupAt(group);
        requireLeaf(leaf);
        requireInRange(low, 0, GREATEST_VALUE);
        requireInRange(high, low, GREATEST_VALUE);
        chosen.leaf = leaf;
        chosen.low = low;
        chosen.high = high;
        return Integer.bitCount(membersOf(chosen));
    }

    public int addJob(int group, int leaf, int value, int rate, int bound)
            throws IndexOutOfBoundsException, IllegalArgumentException, IllegalStateException {
        requireGroup(group);
        requireLeaf(leaf);
        requireInRange(value, 0, GREATEST_VALUE);
        requireInRange(rate, 1, GREATEST_RATE);
        requireInRange(bound, 1, GREATEST_BOUND);
        if (jobCount >= JOBS) {
            throw new IllegalStateException("there are as many jobs as there can be");
        }
        Job added = jobRows[jobCount];
        added.group = group;
        added.leaf = leaf;
        added.value = value;
        added.rate = rate;
        added.bound = bound;
        jobCount++;
        return jobCount - 1;
    }

    public int wave() {
        int startedNow = 0;
        for (int job = 0; job < jobCount; job++) {
            if (jobRows[job].condition == RUNNING) {
                startedNow += advance(jobRows[job]);
            }
        }
        return startedNow;
    }

    public int cancel(int job) throws IndexOutOfBoundsException, IllegalStateException {
        Job chosen = jobAt(job);
        if (chosen.condition != RUNNING) {
            throw new IllegalStateException("the job is not running");
        }
        chosen.condition = CANCELLED;
        return Integer.bitCount(chosen.open());
    }

    // ---- what there is; nothing from here on changes anything

    public int version(int device) throws IndexOutOfBoundsException {
        return deviceAt(device).latestVersion;
    }

    public int heard(int device) throws IndexOutOfBoundsException {
        return deviceAt(device).heardVersion();
    }

    public int wished(int device, int leaf) throws IndexOutOfBoundsException {
        Device twin = deviceAt(device);
        requireLeaf(leaf);
        return twin.wishedValues[leaf];
    }

    public int reported(int device, int leaf) throws IndexOutOfBoundsException {
        Device twin = deviceAt(device);
        requireLeaf(leaf);
        return twin.reportedValues[leaf];
    }

    public int why(int device, int leaf) throws IndexOutOfBoundsException {
        Device twin = deviceAt(device);
        requireLeaf(leaf);
        return twin.reasons[leaf];
    }

    public int differences(int device) throws IndexOutOfBoundsException {
        return deviceAt(device).differing;
    }

    public int differencesAnew(int device) throws IndexOutOfBoundsException {
        Device twin = deviceAt(device);
        int found = 0;
        for (int leaf = 0; leaf < LEAVES; leaf++) {
            if (twin.comparesUnlike(leaf)) {
                found |= 1 << leaf;
            }
        }
        return found;
    }

    public int members(int group) throws IndexOutOfBoundsException {
        return membersOf(groupAt(group));
    }

    public int jobs() {
        return jobCount;
    }

    public int state(int job) throws IndexOutOfBoundsException {
        return jobAt(job).condition;
    }

    public int devices(int job, int kind) throws IndexOutOfBoundsException, IllegalArgumentException {
        Job chosen = jobAt(job);
        requireInRange(kind, KIND_STARTED, KIND_FAILED);
        if (kind == KIND_STARTED) {
            return chosen.started;
        }
        return kind == KIND_DONE ? chosen.done : chosen.failed;
    }

    // ---- what the calls demand

    private Device deviceAt(int device) {
        if (device < 0 || device >= DEVICES) {
            throw new IndexOutOfBoundsException("there is no such device");
        }
        return deviceRows[device];
    }

    private Group groupAt(int group) {
        requireGroup(group);
        return groupRows[group];
    }

    private static void requireGroup(int group) {
        if (group < 0 || group >= GROUPS) {
            throw new IndexOutOfBoundsException("there is no such group");
        }
    }

    // The rows from jobCount on are made, but are no jobs yet.
    private Job jobAt(int job) {
        if (job < 0 || job >= jobCount) {
            throw new IndexOutOfBoundsException("there is no such job");
        }
        return jobRows[job];
    }

    private static void requireLeaf(int leaf) {
        if (leaf < 0 || leaf >= LEAVES) {
            throw new IndexOutOfBoundsException("there is no such leaf");
        }
    }

    private static void requireInRange(int value, int least, int greatest) {
        if (value < least || value > greatest) {
            throw new IllegalArgumentException("a number is out of its range");
        }
    }

    private static void requireAwake(Device twin) {
        if (twin.asleep) {
            throw new IllegalStateException("the device is asleep");
        }
    }

    // ---- what the calls share

    private void mergeWish(Device twin) {
        for (int leaf = 0; leaf < LEAVES; leaf++) {
            if (draft.has(leaf)) {
                twin.takeWish(leaf, draft.values[leaf]);
            }
        }
    }

    private void mergeReport(Device twin) {
        for (int leaf = 0; leaf < LEAVES; leaf++) {
            if (draft.has(leaf)) {
                twin.takeReport(leaf, draft.values[leaf]);
            }
        }
    }

    private int membersOf(Group group) {
        int found = 0;
        for (int device = 0; device < DEVICES; device++) {
            if (group.admits(deviceRows[device])) {
                found |= 1 << device;
            }
        }
        return found;
    }

    private int advance(Job job) {
        judgeStarted(job);
        if (Integer.bitCount(job.failed) >= job.bound) {
            job.condition = STOPPED;
            return 0;
        }
        return startMore(job);
    }

    private void judgeStarted(Job job) {
        int open = job.open();
        for (int device = 0; device < DEVICES; device++) {
            int bit = 1 << device;
            if ((open & bit) == 0) {
                continue;
            }
            Device twin = deviceRows[device];
            if (twin.reportedValues[job.leaf] == job.value) {
                job.done |= bit;
            } else if (twin.wishedValues[job.leaf] == job.value && twin.reasons[job.leaf] != NOT_REFUSED) {
                job.failed |= bit;
            }
        }
    }

    private int startMore(Job job) {
        int waiting = membersOf(groupRows[job.group]) & ~job.started;
        int startedNow = 0;
        for (int device = 0; device < DEVICES && startedNow < job.rate; device++) {
            int bit = 1 << device;
            if ((waiting & bit) != 0) {
                deviceRows[device].takeWish(job.leaf, job.value);
                deviceRows[device].latestVersion++;
                job.started |= bit;
                startedNow++;
            }
        }
        return startedNow;
    }

    private static final class Draft {
        private final int[] values;
        private int leaves;

        private Draft() {
            values = new int[LEAVES];
            leaves = 0;
        }

        private void assign(int leaf, int value) {
            values[leaf] = value;
            leaves |= 1 << leaf;
        }

        private boolean has(int leaf) {
            return (leaves & 1 << leaf) != 0;
        }

        private int count() {
            return Integer.bitCount(leaves);
        }

        private void empty() {
            leaves = 0;
        }
    }

    private static final class Device {
        private final int[] wishedValues;
        private final int[] reportedValues;
        private final int[] reasons;
        private int differing;
        private int latestVersion;
        private int versionBeforeSleep;
        private int latestReport;
        private boolean asleep;

        private Device() {
            wishedValues = new int[LEAVES];
            reportedValues = new int[LEAVES];
            reasons = new int[LEAVES];
            for (int leaf = 0; leaf < LEAVES; leaf++) {
                wishedValues[leaf] = NONE;
                reportedValues[leaf] = NONE;
                reasons[leaf] = NOT_REFUSED;
            }
        }

        private void takeWish(int leaf, int value) {
            wishedValues[leaf] = value;
            reasons[leaf] = NOT_REFUSED;
            keepDifference(leaf);
        }

        private void takeReport(int leaf, int value) {
            reportedValues[leaf] = value;
            keepDifference(leaf);
        }

        private void takeRefusal(int leaf, int reason) {
            reasons[leaf] = reason;
            keepDifference(leaf);
        }

        private void keepDifference(int leaf) {
            if (comparesUnlike(leaf)) {
                differing |= 1 << leaf;
            } else {
                differing &= ~(1 << leaf);
            }
        }

        private boolean differsAt(int leaf) {
            return (differing & 1 << leaf) != 0;
        }

        private boolean comparesUnlike(int leaf) {
            return wishedValues[leaf] != NONE
                    && reportedValues[leaf] != wishedValues[leaf]
                    && reasons[leaf] == NOT_REFUSED;
        }

        private int heardVersion() {
            return asleep ? versionBeforeSleep : latestVersion;
        }
    }

    private static final class Group {
        private int leaf;
        private int low;
        private int high;

        private Group() {
            leaf = 0;
            low = 0;
            high = GREATEST_VALUE;
        }

        // A leaf that is not reported is below every least value, and so admits nobody.
        private boolean admits(Device twin) {
            int value = twin.reportedValues[leaf];
            return value >= low && value <= high;
        }
    }

    // It keeps its group's number, as a number is never null, not even in a row that is no job yet.
    private static final class Job {
        private int group;
        private int leaf;
        private int value;
        private int rate;
        private int bound;
        private int condition;
        private int started;
        private int done;
        private int failed;

        private Job() {
            condition = RUNNING;
        }

        private int open() {
            return started & ~done & ~failed;
        }
    }
}
