import java.util.ArrayList;
import java.util.List;
import java.util.Map;
import java.util.TreeMap;
import java.util.TreeSet;

/**
 * The document once more, read plainly and held in another way: nothing is kept that can be
 * told from the wishes, the reports and the refusals, and nothing is bits but the answers.
 */
final class Model {
    private static final class Twin {
        final Map<Integer, Integer> wishes = new TreeMap<>();
        final Map<Integer, Integer> reports = new TreeMap<>();
        final Map<Integer, Integer> refusals = new TreeMap<>();
        int version = 0;
        int latest = 0;
        /** What it had heard when it fell asleep; null if awake. */
        Integer asleepSince = null;
    }

    private static final class Work {
        int group;
        int leaf;
        int value;
        int rate;
        int bound;
        int state = 0;
        final TreeSet<Integer> started = new TreeSet<>();
        final TreeSet<Integer> done = new TreeSet<>();
        final TreeSet<Integer> failed = new TreeSet<>();
    }

    private final Map<Integer, Integer> draft = new TreeMap<>();
    private final List<Twin> twins = new ArrayList<>();
    private final int[][] groups = {{0, 0, 99}, {0, 0, 99}, {0, 0, 99}, {0, 0, 99}};
    private final List<Work> works = new ArrayList<>();

    Model() {
        for (int device = 0; device < 8; device++) {
            twins.add(new Twin());
        }
    }

    int put(int leaf, int value) {
        within(leaf, 12);
        allow(value >= -1 && value <= 99);
        draft.put(leaf, value);
        return draft.size();
    }

    int drop(int section) {
        within(section, 3);
        for (int leaf = 0; leaf < 12; leaf++) {
            if (leaf / 4 == section) {
                draft.put(leaf, -1);
            }
        }
        return draft.size();
    }

    int wish(int device, int expected) {
        within(device, 8);
        Twin twin = twins.get(device);
        standing(!draft.isEmpty() && (expected == -1 || expected == twin.version));
        wishOf(twin, draft);
        draft.clear();
        return twin.version;
    }

    int report(int device, int number) {
        within(device, 8);
        Twin twin = twins.get(device);
        allow(number >= 1 && (long) number <= twin.latest + 1L);
        standing(twin.asleepSince == null);
        Map<Integer, Integer> patch = new TreeMap<>(draft);
        draft.clear();
        if (number <= twin.latest) {
            return -1;
        }
        twin.latest = number;
        merge(twin.reports, patch);
        return differing(twin).size();
    }

    int obey(int device) {
        within(device, 8);
        Twin twin = twins.get(device);
        standing(twin.asleepSince == null);
        TreeSet<Integer> leaves = differing(twin);
        for (int leaf : leaves) {
            twin.reports.put(leaf, twin.wishes.get(leaf));
        }
        twin.latest++;
        return leaves.size();
    }

    int refuse(int device, int leaf, int reason) {
        within(device, 8);
        within(leaf, 12);
        allow(reason >= 1 && reason <= 9);
        Twin twin = twins.get(device);
        standing(twin.asleepSince == null && differing(twin).contains(leaf));
        twin.refusals.put(leaf, reason);
        return differing(twin).size();
    }

    boolean sleep(int device) {
        within(device, 8);
        Twin twin = twins.get(device);
        if (twin.asleepSince != null) {
            return false;
        }
        twin.asleepSince = twin.version;
        return true;
    }

    int wake(int device) {
        within(device, 8);
        Twin twin = twins.get(device);
        int heard = heard(device);
        twin.asleepSince = null;
        return twin.version - heard;
    }

    int setGroup(int group, int leaf, int low, int high) {
        within(group, 4);
        within(leaf, 12);
        allow(low >= 0 && low <= 99 && high >= low && high <= 99);
        groups[group] = new int[] {leaf, low, high};
        return memberSet(group).size();
    }

    int addJob(int group, int leaf, int value, int rate, int bound) {
        within(group, 4);
        within(leaf, 12);
        allow(value >= 0 && value <= 99 && rate >= 1 && rate <= 8 && bound >= 1 && bound <= 8);
        standing(works.size() < 8);
        Work work = new Work();
        work.group = group;
        work.leaf = leaf;
        work.value = value;
        work.rate = rate;
        work.bound = bound;
        works.add(work);
        return works.size() - 1;
    }

    int wave() {
        int sum = 0;
        for (Work work : works) {
            if (work.state != 0) {
                continue;
            }
            for (int device : work.started) {
                judge(work, device);
            }
            if (work.failed.size() >= work.bound) {
                work.state = 1;
                continue;
            }
            int left = work.rate;
            for (int device : memberSet(work.group)) {
                if (left > 0 && work.started.add(device)) {
                    wishOf(twins.get(device), Map.of(work.leaf, work.value));
                    left--;
                    sum++;
                }
            }
        }
        return sum;
    }

    private void judge(Work work, int device) {
        if (work.done.contains(device) || work.failed.contains(device)) {
            return;
        }
        Twin twin = twins.get(device);
        if (twin.reports.getOrDefault(work.leaf, -1) == work.value) {
            work.done.add(device);
        } else if (twin.wishes.getOrDefault(work.leaf, -1) == work.value && twin.refusals.containsKey(work.leaf)) {
            work.failed.add(device);
        }
    }

    int cancel(int job) {
        within(job, works.size());
        Work work = works.get(job);
        standing(work.state == 0);
        work.state = 2;
        return work.started.size() - work.done.size() - work.failed.size();
    }

    int version(int device) {
        within(device, 8);
        return twins.get(device).version;
    }

    int heard(int device) {
        within(device, 8);
        Twin twin = twins.get(device);
        return twin.asleepSince == null ? twin.version : twin.asleepSince;
    }

    int wished(int device, int leaf) {
        within(device, 8);
        within(leaf, 12);
        return twins.get(device).wishes.getOrDefault(leaf, -1);
    }

    int reported(int device, int leaf) {
        within(device, 8);
        within(leaf, 12);
        return twins.get(device).reports.getOrDefault(leaf, -1);
    }

    int why(int device, int leaf) {
        within(device, 8);
        within(leaf, 12);
        return twins.get(device).refusals.getOrDefault(leaf, 0);
    }

    int differences(int device) {
        within(device, 8);
        return bits(differing(twins.get(device)));
    }

    int members(int group) {
        within(group, 4);
        return bits(memberSet(group));
    }

    int jobs() {
        return works.size();
    }

    int state(int job) {
        within(job, works.size());
        return works.get(job).state;
    }

    int devices(int job, int kind) {
        within(job, works.size());
        allow(kind >= 0 && kind <= 2);
        Work work = works.get(job);
        return bits(kind == 0 ? work.started : kind == 1 ? work.done : work.failed);
    }

    /** No call tells this; the runs need it to number their reports. */
    int latestReport(int device) {
        return twins.get(device).latest;
    }

    private static void wishOf(Twin twin, Map<Integer, Integer> patch) {
        merge(twin.wishes, patch);
        twin.refusals.keySet().removeAll(patch.keySet());
        twin.version++;
    }

    private static void merge(Map<Integer, Integer> values, Map<Integer, Integer> patch) {
        values.putAll(patch);
        values.values().removeIf(value -> value == -1);
    }

    private static TreeSet<Integer> differing(Twin twin) {
        TreeSet<Integer> leaves = new TreeSet<>(twin.wishes.keySet());
        leaves.removeIf(leaf -> twin.wishes.get(leaf).equals(twin.reports.get(leaf)));
        leaves.removeAll(twin.refusals.keySet());
        return leaves;
    }

    private TreeSet<Integer> memberSet(int group) {
        TreeSet<Integer> found = new TreeSet<>();
        for (int device = 0; device < 8; device++) {
            Integer value = twins.get(device).reports.get(groups[group][0]);
            if (value != null && value >= groups[group][1] && value <= groups[group][2]) {
                found.add(device);
            }
        }
        return found;
    }

    private static int bits(TreeSet<Integer> numbers) {
        int found = 0;
        for (int number : numbers) {
            found |= 1 << number;
        }
        return found;
    }

    private static void within(int number, int end) {
        if (number < 0 || number >= end) {
            throw new IndexOutOfBoundsException();
        }
    }

    private static void allow(boolean allowed) {
        if (!allowed) {
            throw new IllegalArgumentException();
        }
    }

    private static void standing(boolean standing) {
        if (!standing) {
            throw new IllegalStateException();
        }
    }
}
