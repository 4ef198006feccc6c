import java.util.List;

/** One test for each sentence of the document's first section and of its terms that names a boundary case. */
public final class TermsBoundariesTest {
    private static final Bounds WHAT_IT_IS = new Bounds("What it is");
    private static final Bounds TERMS = new Bounds("Terms");

    private record Taking(String name, int numbers, Bounds.CallWith call) {
    }

    private static final Taking[] TAKING_A_DEVICE = {
        new Taking("wish", 8, (x, device) -> x.wish(device, -1)),
        new Taking("report", 8, (x, device) -> x.report(device, 2)),
        new Taking("obey", 8, (x, device) -> x.obey(device)),
        new Taking("refuse", 8, (x, device) -> x.refuse(device, 0, 1)),
        new Taking("sleep", 8, (x, device) -> x.sleep(device) ? 1 : 0),
        new Taking("wake", 8, (x, device) -> x.wake(device)),
        new Taking("version", 8, (x, device) -> x.version(device)),
        new Taking("heard", 8, (x, device) -> x.heard(device)),
        new Taking("wished", 8, (x, device) -> x.wished(device, 0)),
        new Taking("reported", 8, (x, device) -> x.reported(device, 0)),
        new Taking("why", 8, (x, device) -> x.why(device, 0)),
        new Taking("differences", 8, (x, device) -> x.differences(device)),
        new Taking("differencesAnew", 8, (x, device) -> x.differencesAnew(device)),
    };
    private static final Taking[] TAKING_A_LEAF = {
        new Taking("put", 12, (x, leaf) -> x.put(leaf, 0)),
        new Taking("refuse", 12, (x, leaf) -> x.refuse(0, leaf, 1)),
        new Taking("setGroup", 12, (x, leaf) -> x.setGroup(0, leaf, 0, 99)),
        new Taking("addJob", 12, (x, leaf) -> x.addJob(0, leaf, 0, 1, 1)),
        new Taking("wished", 12, (x, leaf) -> x.wished(0, leaf)),
        new Taking("reported", 12, (x, leaf) -> x.reported(0, leaf)),
        new Taking("why", 12, (x, leaf) -> x.why(0, leaf)),
    };
    private static final Taking[] TAKING_ANOTHER = {
        new Taking("drop", 3, (x, section) -> x.drop(section)),
        new Taking("setGroup", 4, (x, group) -> x.setGroup(group, 0, 0, 99)),
        new Taking("addJob", 4, (x, group) -> x.addJob(group, 0, 0, 1, 1)),
        new Taking("members", 4, (x, group) -> x.members(group)),
        new Taking("cancel", 1, (x, job) -> x.cancel(job)),
        new Taking("state", 1, (x, job) -> x.state(job)),
        new Taking("devices", 1, (x, job) -> x.devices(job, 0)),
    };

    private TermsBoundariesTest() {
    }

    public static void main(String[] args) {
        whatItIs();
        deviceTerms();
        draftTerms();
        differenceTerms();
        groupTerms();
        jobTerms();
        waveTerms();
        exceptionTerms();
        TERMS.end(
            "Ahead of the calls `put`, `drop` the interface says: ---- the draft.",
            "Ahead of the calls `wish`, `report`, `obey`, `refuse`, `sleep`, `wake` the interface says: ---- wishes and reports.",
            "Ahead of the calls `setGroup`, `addJob`, `wave`, `cancel` the interface says: ---- groups and jobs.",
            "Ahead of the calls `version`, `heard`, `wished`, `reported`, `why`, `differences`, `differencesAnew`, `members`,"
                    + " `jobs`, `state`, `devices` the interface says: ---- what there is;");
        Kit.end("TermsBoundariesTest");
    }

    private static void whatItIs() {
        WHAT_IT_IS.test("1 to 24", "An object is used for at most 512 calls after it has been made;",
                TermsBoundariesTest::lastCalls);
        WHAT_IT_IS.end(
            "A register of device twins: for each device what is wished and what it has reported, leaf by leaf, with versions;",
            "wishes are merged from patches, also with an expected version;",
            "devices sleep and wake, and hear the differences then;",
            "answers may be doubled;",
            "a device may refuse a wish and tell why;",
            "groups fill and empty by themselves, by what is reported;",
            "jobs go over a group in waves, stop at a bound of failures, and take in devices that join late.",
            "what later calls answer is free.");
    }

    private static void deviceTerms() {
        TERMS.test("19, 20", "Differences are kept at each change, and told once more by comparing afresh.",
                TermsBoundariesTest::keptAndAfresh);
        TERMS.test("4 to 9, 14 to 20", "Devices are 0 to 7.", TermsBoundariesTest::devices);
        TERMS.test("2, 7, 10, 11, 16 to 18", "Leaves are 0 to 11;", TermsBoundariesTest::leaves);
        TERMS.test("3", "the leaf l is in the section l / 4.", TermsBoundariesTest::leavesOfSections);
        TERMS.test("1, 16, 17", "Each device has for each leaf a wished value and a reported one, 0 to 99 or none,"
                + " at first none.", TermsBoundariesTest::valuesOfEachDevice);
        TERMS.test("4, 12, 14", "It has a version, 0 at first, which becomes 1 more with each wish for it.",
                TermsBoundariesTest::versions);
        TERMS.test("1, 8, 9", "A device is awake, as at first, or asleep.", TermsBoundariesTest::awakeAtFirst);
    }

    private static void draftTerms() {
        TERMS.test("2, 3", "A draft has for some leaves a value or a removal;", TermsBoundariesTest::draftUpToFull);
        TERMS.test("1 to 5", "at first it has none of them.", TermsBoundariesTest::draftAtFirst);
        TERMS.test("3", "When a section is dropped in the draft, it has a removal for each of its four leaves.",
                TermsBoundariesTest::removalsOfASection);
        TERMS.test("4", "A wish for a device merges the draft into what is wished of it: leaves with a value get that,"
                + " those with a removal have none then, others stay;", TermsBoundariesTest::wishMerges);
        TERMS.test("4, 18", "refusals of the leaves of the draft are taken back.",
                TermsBoundariesTest::refusalsTakenBack);
        TERMS.test("5", "A report of a device merges the draft likewise into what it has reported;",
                TermsBoundariesTest::reportMerges);
        TERMS.test("5, 6", "reports are numbered by the device from 1 on, and one whose number is not above that of the"
                + " latest one that was taken is a doubled one, which changes nothing.",
                TermsBoundariesTest::reportNumbers);
        TERMS.test("4, 5", "The draft is empty behind both.", TermsBoundariesTest::draftEmptied);
    }

    private static void differenceTerms() {
        TERMS.test("5 to 7, 19, 20", "A leaf of a device differs if it has a wished value, the reported one is none or"
                + " another one, and the leaf is not refused.", TermsBoundariesTest::whatDiffers);
        TERMS.test("7", "A device that is awake can refuse a leaf that differs, with a reason, 1 to 9;",
                TermsBoundariesTest::whatCanBeRefused);
        TERMS.test("7, 18", "that stays until the leaf is wished anew.", TermsBoundariesTest::refusalsStay);
        TERMS.test("15", "A device that is awake has heard its version;", TermsBoundariesTest::heardAwake);
        TERMS.test("9, 15", "one that is asleep has heard the version that it had when it fell asleep.",
                TermsBoundariesTest::heardAsleep);
    }

    private static void groupTerms() {
        TERMS.test("10, 11, 21", "Groups are 0 to 3.", TermsBoundariesTest::groups);
        TERMS.test("10", "A group has a leaf and values from a least to a greatest one;",
                TermsBoundariesTest::groupRanges);
        TERMS.test("10, 12, 21", "its members are the devices whose reported value of the leaf is among these.",
                TermsBoundariesTest::membersAtTheEnds);
        TERMS.test("1, 21", "At first all groups have the leaf 0 and the values 0 to 99.",
                TermsBoundariesTest::groupsAtFirst);
    }

    private static void jobTerms() {
        TERMS.test("11, 13, 23, 24", "Jobs are numbered from 0 on;", TermsBoundariesTest::jobNumbers);
        TERMS.test("11, 22", "there are at most 8.", TermsBoundariesTest::eightJobs);
        TERMS.test("11 to 13, 23", "A job has a group, a leaf, a value, a rate, and a bound, and is running, stopped, or"
                + " cancelled;", TermsBoundariesTest::jobParts);
        TERMS.test("11, 23", "it is running at first.", TermsBoundariesTest::runningAtFirst);
    }

    private static void waveTerms() {
        TERMS.test("12, 24", "In each wave, for each running job, by rising numbers, this is done: a started device is"
                + " done if the value is what it has reported for the leaf by then;", TermsBoundariesTest::done);
        TERMS.test("12, 24", "otherwise it has failed if the value is wished of it for the leaf by then, and refused.",
                TermsBoundariesTest::failed);
        TERMS.test("12, 24", "A device that is done or has failed stays so.", TermsBoundariesTest::staysSo);
        TERMS.test("12, 23", "If as many devices have failed as the bound tells, or more, the job is stopped.",
                TermsBoundariesTest::stoppedAtTheBound);
        TERMS.test("12", "Otherwise up to as many devices as the rate tells, members of the group that it has not started"
                + " yet, by rising numbers, asleep or awake, are started: the value is wished of them for the leaf, as by a"
                + " wish of this leaf alone (the draft stays).", TermsBoundariesTest::startedByTheRate);
    }

    private static void exceptionTerms() {
        TERMS.test("2 to 24", "A call that throws an exception changes nothing.", TermsBoundariesTest::thrownChangesNothing);
        TERMS.test("2 to 24", "If several exceptions apply, the one that is named first in the throws clause is thrown.",
                TermsBoundariesTest::firstNamedIsThrown);
        TERMS.test("2 to 21, 23, 24", "A method that takes a device, a leaf, a section, a group or a job throws"
                + " IndexOutOfBoundsException if there is no such one.", TermsBoundariesTest::noSuchOne);
        TERMS.test("14 to 24", "nothing from here on changes anything.", TermsBoundariesTest::readingsChangeNothing);
    }

    private static void lastCalls() {
        TwinRegister x = new TwinRegister();
        for (int version = 1; version < 256; version++) {
            x.put(0, version % 100);
            x.wish(7, version - 1);
        }
        x.put(0, 99);
        Bounds.due("the 512th call wishes", x.wish(7, 255), 256);

        TwinRegister y = new TwinRegister();
        for (int report = 1; report < 512; report++) {
            y.obey(0);
        }
        Bounds.due("the 512th call reports", y.report(0, 512), 0);

        TwinRegister z = new TwinRegister();
        for (int report = 1; report < 512; report++) {
            z.obey(0);
        }
        Bounds.thrown("the 512th call throws", z, r -> r.report(0, 513), Bounds.ARGUMENT);

        TwinRegister s = new TwinRegister();
        s.sleep(3);
        for (int version = 1; version < 256; version++) {
            Kit.wishOne(s, 3, 11, -1);
        }
        Bounds.due("the 512th call wakes", s.wake(3), 255);

        TwinRegister j = Kit.withReports();
        for (int job = 0; job < 8; job++) {
            j.addJob(0, 3 + job, 5, 8, 8);
        }
        for (int call = 25; call < 511; call++) {
            j.wave();
        }
        Bounds.due("the 511th call reads", j.version(7), 8);
        Bounds.due("the 512th call starts none", j.wave(), 0);
    }

    private static void dueDifferences(String what, TwinRegister x, int device, int want) {
        Bounds.due(what + ", kept", x.differences(device), want);
        Bounds.due(what + ", afresh", x.differencesAnew(device), want);
    }

    private static void keptAndAfresh() {
        TwinRegister x = new TwinRegister();
        int want = 0;
        for (int leaf = 0; leaf < Kit.LEAVES; leaf++) {
            want |= 1 << leaf;
            Kit.wishOne(x, 7, leaf, leaf);
            dueDifferences("up to full " + leaf, x, 7, want);
        }
        for (int leaf = 0; leaf < Kit.LEAVES; leaf += 2) {
            want &= ~(1 << leaf);
            Kit.reportOne(x, 7, 1 + leaf / 2, leaf, leaf);
            dueDifferences("reported " + leaf, x, 7, want);
        }
        for (int leaf = 1; leaf < Kit.LEAVES; leaf += 4) {
            want &= ~(1 << leaf);
            x.refuse(7, leaf, 9);
            dueDifferences("refused " + leaf, x, 7, want);
        }
        x.report(7, 6);
        dueDifferences("a doubled report", x, 7, want);
        x.setGroup(0, 0, 0, 99);
        x.addJob(0, 1, 98, 1, 1);
        x.wave();
        dueDifferences("a job's wish", x, 7, want | 2);
        x.obey(7);
        dueDifferences("down to empty", x, 7, 0);
        dueDifferences("of no other device", x, 6, 0);
    }

    private static void dueTaking(Taking[] calls, Bounds.Setup setup) {
        for (Taking taking : calls) {
            Bounds.takenEach(taking.name, setup, 0, taking.numbers - 1, taking.call);
            Bounds.refusedEach(taking.name, setup, Bounds.outside(0, taking.numbers - 1), taking.call, Bounds.INDEX);
        }
    }

    private static void devices() {
        dueTaking(TAKING_A_DEVICE, Bounds::ready);
        TwinRegister x = Kit.withReports();
        for (int device = 0; device < Kit.DEVICES; device++) {
            Bounds.due("device " + device + " is one of its own", x.reported(device, 0), device);
        }
    }

    private static TwinRegister allLeavesDiffer() {
        TwinRegister x = new TwinRegister();
        Bounds.fillDraft(x, 7);
        x.wish(0, -1);
        return x;
    }

    private static void leaves() {
        dueTaking(TAKING_A_LEAF, TermsBoundariesTest::allLeavesDiffer);
        TwinRegister x = new TwinRegister();
        for (int leaf = 0; leaf < Kit.LEAVES; leaf++) {
            Bounds.due("one more leaf", x.put(leaf, leaf), leaf + 1);
        }
        x.report(7, 1);
        for (int leaf = 0; leaf < Kit.LEAVES; leaf++) {
            Bounds.due("leaf " + leaf + " is one of its own", x.reported(7, leaf), leaf);
        }
    }

    private static void leavesOfSections() {
        for (int section = 0; section < 3; section++) {
            TwinRegister x = allLeavesDiffer();
            x.drop(section);
            x.wish(0, -1);
            for (int leaf = 0; leaf < Kit.LEAVES; leaf++) {
                Bounds.due("section " + section + ", leaf " + leaf, x.wished(0, leaf), leaf / 4 == section ? -1 : 7);
            }
        }
    }

    private static void valuesOfEachDevice() {
        TwinRegister first = new TwinRegister();
        for (int device = 0; device < Kit.DEVICES; device++) {
            for (int leaf = 0; leaf < Kit.LEAVES; leaf++) {
                Bounds.due("none is wished at first", first.wished(device, leaf), -1);
                Bounds.due("none is reported at first", first.reported(device, leaf), -1);
            }
        }
        TwinRegister x = new TwinRegister();
        TwinRegister y = new TwinRegister();
        for (int device = 0; device < Kit.DEVICES; device++) {
            for (int leaf = 0; leaf < Kit.LEAVES; leaf++) {
                x.put(leaf, device * Kit.LEAVES + leaf);
                y.put(leaf, 99 - device * Kit.LEAVES - leaf);
            }
            x.wish(device, 0);
            y.report(device, 1);
        }
        for (int device = 0; device < Kit.DEVICES; device++) {
            for (int leaf = 0; leaf < Kit.LEAVES; leaf++) {
                int value = device * Kit.LEAVES + leaf;
                Bounds.due("wished " + value, x.wished(device, leaf), value);
                Bounds.due("reported " + (99 - value), y.reported(device, leaf), 99 - value);
                Bounds.due("wished is not reported", x.reported(device, leaf), -1);
                Bounds.due("reported is not wished", y.wished(device, leaf), -1);
            }
        }
        TwinRegister z = new TwinRegister();
        for (int value : new int[] {0, 99, -1}) {
            Kit.wishOne(z, 3, 4, value);
            Bounds.due("wished, and once more none", z.wished(3, 4), value);
        }
        for (int report = 1; report < 4; report++) {
            int value = new int[] {99, 0, -1}[report - 1];
            Kit.reportOne(z, 3, report, 4, value);
            Bounds.due("reported, and once more none", z.reported(3, 4), value);
        }
    }

    private static void versions() {
        TwinRegister x = Kit.withReports();
        for (int device = 0; device < Kit.DEVICES; device++) {
            Bounds.due("0 at first, behind a report too", x.version(device), 0);
        }
        Bounds.due("1 more", Kit.wishOne(x, 7, 5, 50), 1);
        Bounds.due("1 more by the same wish", Kit.wishOne(x, 7, 5, 50), 2);
        x.drop(2);
        Bounds.due("1 more by removals of none", x.wish(7, 2), 3);
        x.refuse(7, 5, 1);
        x.obey(7);
        x.report(7, 3);
        x.sleep(7);
        Bounds.due("no more by others than wishes", x.version(7), 3);
        Bounds.due("1 more asleep", Kit.wishOne(x, 7, 5, 51), 4);
        Bounds.due("2 not heard", Kit.wishOne(x, 7, 5, 52), 5);
        x.wake(7);
        Bounds.due("no more by waking", x.version(7), 5);
        x.setGroup(0, 0, 7, 7);
        x.addJob(0, 5, 52, 8, 8);
        x.addJob(0, 6, 52, 8, 8);
        x.wave();
        Bounds.due("1 more by each job", x.version(7), 7);
        x.put(0, 0);
        Bounds.thrown("a refused wish", x, r -> r.wish(7, 6), Bounds.STATE);
        Bounds.due("no more by it", x.version(7), 7);
        for (int device = 0; device < 7; device++) {
            Bounds.due("of no other device", x.version(device), 0);
        }
    }

    private static void awakeAtFirst() {
        for (int device = 0; device < Kit.DEVICES; device++) {
            TwinRegister x = new TwinRegister();
            Bounds.due("reports", x.report(device, 1), 0);
            Bounds.due("was awake", x.sleep(device), true);
            Bounds.due("is asleep", x.sleep(device), false);
            for (int other = 0; other < Kit.DEVICES; other++) {
                Bounds.due("the others are awake", x.sleep(other), other != device);
            }
        }
    }

    private static void draftUpToFull() {
        for (int value : new int[] {-1, 0, 99}) {
            TwinRegister x = new TwinRegister();
            for (int leaf = 11; leaf >= 0; leaf--) {
                Bounds.due("a leaf more", x.put(leaf, value), 12 - leaf);
            }
            Bounds.due("full, a leaf again", x.put(0, value), 12);
            Bounds.due("full, dropped", x.drop(2), 12);
            Bounds.due("full, a value once more", x.put(11, 1), 12);
        }
    }

    private static void draftAtFirst() {
        TwinRegister x = new TwinRegister();
        Bounds.thrown("nothing to wish", x, r -> r.wish(0, 0), Bounds.STATE);
        Bounds.due("one leaf", x.put(11, -1), 1);
        Bounds.due("one section", new TwinRegister().drop(2), 4);
        TwinRegister y = new TwinRegister();
        y.report(0, 1);
        for (int leaf = 0; leaf < Kit.LEAVES; leaf++) {
            Bounds.due("nothing to report", y.reported(0, leaf), -1);
        }
    }

    private static void removalsOfASection() {
        for (int section = 0; section < 3; section++) {
            for (int had = 0; had <= 4; had++) {
                TwinRegister x = allLeavesDiffer();
                for (int leaf = 4 * section; leaf < 4 * section + had; leaf++) {
                    x.put(leaf, 99);
                }
                Bounds.due("dropped over " + had, x.drop(section), 4);
                Bounds.due("dropped again", x.drop(section), 4);
                x.wish(0, -1);
                for (int leaf = 4 * section; leaf < 4 * section + 4; leaf++) {
                    Bounds.due("a removal of leaf " + leaf, x.wished(0, leaf), -1);
                }
            }
        }
        TwinRegister y = new TwinRegister();
        Bounds.fillDraft(y, 0);
        Bounds.due("of a full draft", y.drop(1), 12);
        Bounds.due("nothing is wished by it", y.wished(0, 4), -1);
    }

    private static void dueWished(TwinRegister x, int device, int... want) {
        for (int leaf = 0; leaf < want.length; leaf++) {
            Bounds.due("leaf " + leaf, x.wished(device, leaf), want[leaf]);
        }
    }

    private static void dueReported(TwinRegister x, int device, int... want) {
        for (int leaf = 0; leaf < want.length; leaf++) {
            Bounds.due("leaf " + leaf, x.reported(device, leaf), want[leaf]);
        }
    }

    private static void wishMerges() {
        TwinRegister x = new TwinRegister();
        Bounds.fillDraft(x, 99);
        x.wish(7, 0);
        dueWished(x, 7, 99, 99, 99, 99, 99, 99, 99, 99, 99, 99, 99, 99);
        x.put(0, 0);
        x.put(11, -1);
        x.put(5, 99);
        x.wish(7, 1);
        dueWished(x, 7, 0, 99, 99, 99, 99, 99, 99, 99, 99, 99, 99, -1);
        x.put(11, -1);
        x.put(0, -1);
        x.wish(7, 2);
        dueWished(x, 7, -1, 99, 99, 99, 99, 99, 99, 99, 99, 99, 99, -1);
        x.drop(0);
        x.drop(1);
        x.drop(2);
        x.wish(7, 3);
        dueWished(x, 7, -1, -1, -1, -1, -1, -1, -1, -1, -1, -1, -1, -1);
        dueWished(x, 6, -1, -1, -1, -1, -1, -1, -1, -1, -1, -1, -1, -1);
    }

    private static void refusalsTakenBack() {
        TwinRegister x = allLeavesDiffer();
        for (int leaf = 0; leaf < Kit.LEAVES; leaf++) {
            x.refuse(0, leaf, 1 + leaf % 9);
        }
        x.put(0, 7);
        x.put(1, 8);
        x.put(11, -1);
        x.wish(0, -1);
        int[] want = {0, 0, 3, 4, 5, 6, 7, 8, 9, 1, 2, 0};
        for (int leaf = 0; leaf < Kit.LEAVES; leaf++) {
            Bounds.due("leaf " + leaf, x.why(0, leaf), want[leaf]);
        }
        dueDifferences("those with a value again", x, 0, Kit.bits(0, 1));
        x.put(2, 7);
        Bounds.thrown("a refused wish", x, r -> r.wish(0, 5), Bounds.STATE);
        x.wish(1, 0);
        Bounds.due("not by a wish for another device", x.why(0, 2), 3);
        x.drop(0);
        x.drop(1);
        x.drop(2);
        x.wish(0, -1);
        for (int leaf = 0; leaf < Kit.LEAVES; leaf++) {
            Bounds.due("all, leaf " + leaf, x.why(0, leaf), 0);
        }
        Bounds.fillDraft(x, 7);
        x.wish(0, -1);
        dueDifferences("all", x, 0, Bounds.ALL_LEAVES);
    }

    private static void reportMerges() {
        TwinRegister x = new TwinRegister();
        x.report(7, 1);
        dueReported(x, 7, -1, -1, -1, -1, -1, -1, -1, -1, -1, -1, -1, -1);
        Bounds.fillDraft(x, 0);
        x.report(7, 2);
        dueReported(x, 7, 0, 0, 0, 0, 0, 0, 0, 0, 0, 0, 0, 0);
        x.report(7, 3);
        dueReported(x, 7, 0, 0, 0, 0, 0, 0, 0, 0, 0, 0, 0, 0);
        x.drop(1);
        x.put(0, -1);
        x.put(11, 99);
        x.report(7, 4);
        dueReported(x, 7, -1, 0, 0, 0, -1, -1, -1, -1, 0, 0, 0, 99);
        x.put(0, -1);
        x.put(7, 5);
        x.report(7, 5);
        dueReported(x, 7, -1, 0, 0, 0, -1, -1, -1, 5, 0, 0, 0, 99);
        dueReported(x, 6, -1, -1, -1, -1, -1, -1, -1, -1, -1, -1, -1, -1);
        dueWished(x, 7, -1, -1, -1, -1, -1, -1, -1, -1, -1, -1, -1, -1);
        TwinRegister y = allLeavesDiffer();
        y.refuse(0, 3, 4);
        Kit.reportOne(y, 0, 1, 3, 6);
        Bounds.due("refusals stay, unlike a wish's", y.why(0, 3), 4);
    }

    private static void reportNumbers() {
        Bounds.thrown("0 at first", new TwinRegister(), r -> r.report(0, 0), Bounds.ARGUMENT);
        Bounds.thrown("2 at first", new TwinRegister(), r -> r.report(0, 2), Bounds.ARGUMENT);
        TwinRegister x = new TwinRegister();
        Bounds.due("1 at first", Kit.reportOne(x, 0, 1, 0, 10), 0);
        Bounds.due("2 next", Kit.reportOne(x, 0, 2, 0, 20), 0);
        Bounds.due("3 next", Kit.reportOne(x, 0, 3, 0, 30), 0);
        Bounds.thrown("5 is too far", x, r -> r.report(0, 5), Bounds.ARGUMENT);
        for (int number = 1; number <= 3; number++) {
            Bounds.due("doubled " + number, Kit.reportOne(x, 0, number, 0, 99), -1);
            Bounds.due("changes nothing", x.reported(0, 0), 30);
        }
        Bounds.due("obeying is the fourth", x.obey(0), 0);
        Bounds.due("so the fourth is doubled", Kit.reportOne(x, 0, 4, 0, 99), -1);
        Bounds.due("and the fifth is next", Kit.reportOne(x, 0, 5, 0, 50), 0);
        Bounds.due("it was taken", x.reported(0, 0), 50);
        for (int device = 1; device < Kit.DEVICES; device++) {
            int each = device;
            Bounds.thrown("numbered by the device", x, r -> r.report(each, 2), Bounds.ARGUMENT);
            Bounds.due("from 1 on", x.report(device, 1), 0);
        }
        TwinRegister y = Kit.busy();
        Kit.told(() -> y.report(0, 1));
        Kit.dueSame("a doubled one changes nothing", Kit.readings(y), Kit.readings(Kit.busy()));
    }

    private static void draftEmptied() {
        TwinRegister x = new TwinRegister();
        Bounds.fillDraft(x, 1);
        x.wish(0, -1);
        Bounds.thrown("empty behind a wish", x, r -> r.wish(0, -1), Bounds.STATE);
        Bounds.due("one leaf behind a wish", x.put(11, 2), 1);
        x.report(0, 1);
        Bounds.thrown("empty behind a report", x, r -> r.wish(0, -1), Bounds.STATE);
        Bounds.fillDraft(x, 3);
        x.report(0, 1);
        Bounds.thrown("empty behind a doubled report", x, r -> r.wish(0, -1), Bounds.STATE);
        Bounds.due("a section behind that", x.drop(0), 4);
        x.report(0, 2);
        x.report(0, 3);
        Bounds.due("one leaf behind an empty report", x.put(0, -1), 1);
        x.wish(1, -1);
        dueWished(x, 1, -1, -1, -1, -1, -1, -1, -1, -1, -1, -1, -1, -1);
    }

    private static void whatDiffers() {
        int[] values = {-1, 0, 1, 98, 99};
        for (int wished : values) {
            for (int reported : values) {
                TwinRegister x = new TwinRegister();
                Kit.reportOne(x, 7, 1, 11, reported);
                Kit.wishOne(x, 7, 11, wished);
                boolean want = wished != -1 && reported != wished;
                String what = "wished " + wished + ", reported " + reported;
                dueDifferences(what, x, 7, want ? 1 << 11 : 0);
                Bounds.due(what + ", told by a report", x.report(7, 2), want ? 1 : 0);
                if (want) {
                    x.refuse(7, 11, 1);
                }
                dueDifferences(what + ", refused", x, 7, 0);
            }
        }
    }

    private static void whatCanBeRefused() {
        for (int reason = 1; reason <= 9; reason++) {
            TwinRegister x = Bounds.ready();
            Bounds.due("reason " + reason, x.refuse(0, 0, reason), 0);
            Bounds.due("it is told", x.why(0, 0), reason);
        }
        Bounds.refused("reason 0", Bounds::ready, r -> r.refuse(0, 0, 0), Bounds.ARGUMENT);
        Bounds.refused("reason 10", Bounds::ready, r -> r.refuse(0, 0, 10), Bounds.ARGUMENT);
        Bounds.refused("asleep", Bounds::readyAsleep, r -> r.refuse(0, 0, 1), Bounds.STATE);
        Bounds.refused("not wished", Bounds::ready, r -> r.refuse(0, 1, 1), Bounds.STATE);
        TwinRegister y = Bounds.readyAsleep();
        y.wake(0);
        Bounds.due("awake once more", y.refuse(0, 0, 1), 0);
    }

    private static void refusalsStay() {
        TwinRegister x = Bounds.ready();
        x.refuse(7, 0, 9);
        x.report(7, 2);
        Kit.reportOne(x, 7, 3, 0, 39);
        Bounds.due("behind a report", x.why(7, 0), 9);
        Kit.reportOne(x, 7, 4, 0, 40);
        Kit.reportOne(x, 7, 5, 0, -1);
        x.obey(7);
        x.sleep(7);
        x.wake(7);
        x.wave();
        Bounds.due("behind reports, sleep and a wave", x.why(7, 0), 9);
        dueDifferences("refused still", x, 7, 0);
        Kit.wishOne(x, 7, 1, 99);
        Kit.wishOne(x, 6, 0, 99);
        Bounds.due("behind other wishes", x.why(7, 0), 9);
        Bounds.thrown("no other reason", x, r -> r.refuse(7, 0, 1), Bounds.STATE);
        Bounds.due("the same reason", x.why(7, 0), 9);
        x.sleep(7);
        Kit.wishOne(x, 7, 0, 40);
        Bounds.due("wished anew, asleep", x.why(7, 0), 0);
        x.wake(7);
        x.refuse(7, 0, 1);
        Bounds.due("refused anew", x.why(7, 0), 1);
        Kit.wishOne(x, 7, 0, -1);
        Bounds.due("taken from the wishes", x.why(7, 0), 0);
    }

    private static void heardAwake() {
        TwinRegister x = Kit.withReports();
        x.addJob(0, 5, 30, 8, 8);
        for (int device = 0; device < Kit.DEVICES; device++) {
            Bounds.due("0 at first", x.heard(device), 0);
        }
        Kit.wishOne(x, 7, 0, 0);
        Bounds.due("a wish at once", x.heard(7), 1);
        x.wave();
        Bounds.due("a job's wish at once", x.heard(7), 2);
        Bounds.due("another device", x.heard(6), 1);
        x.sleep(7);
        Kit.wishOne(x, 7, 0, 0);
        x.wake(7);
        Bounds.due("all when it wakes", x.heard(7), 3);
    }

    private static void heardAsleep() {
        TwinRegister x = Kit.withReports();
        x.addJob(0, 5, 30, 8, 8);
        x.sleep(0);
        Bounds.due("0, nothing wished", x.heard(0), 0);
        Kit.wishOne(x, 0, 0, 0);
        Bounds.due("0, wished", x.heard(0), 0);
        x.sleep(0);
        Bounds.due("0, told to sleep again", x.heard(0), 0);
        x.wave();
        Bounds.due("0, wished by a job", x.heard(0), 0);
        Bounds.due("2 versions when it wakes", x.wake(0), 2);
        x.sleep(0);
        Bounds.due("2, asleep again", x.heard(0), 2);
        Kit.wishOne(x, 0, 0, 0);
        Bounds.due("2, wished", x.heard(0), 2);
        Bounds.due("the others hear", x.heard(1), 1);
    }

    private static void groups() {
        for (Taking taking : List.of(TAKING_ANOTHER).subList(1, 4)) {
            Bounds.takenEach(taking.name, Bounds::ready, 0, 3, taking.call);
            Bounds.refusedEach(taking.name, Bounds::ready, Bounds.outside(0, 3), taking.call, Bounds.INDEX);
        }
        TwinRegister x = Kit.withReports();
        for (int group = 0; group < Kit.GROUPS; group++) {
            x.setGroup(group, 0, group, 2 * group);
        }
        for (int group = 0; group < Kit.GROUPS; group++) {
            int want = (1 << (2 * group + 1)) - (1 << group);
            Bounds.due("group " + group + " is one of its own", x.members(group), want);
        }
    }

    private static void groupRanges() {
        int[][] ranges = {{0, 0}, {0, 99}, {99, 99}, {0, 7}, {7, 7}, {3, 4}};
        int[] want = {1, 255, 0, 255, 128, 24};
        for (int leaf = 0; leaf < Kit.LEAVES; leaf += 11) {
            TwinRegister x = new TwinRegister();
            for (int device = 0; device < Kit.DEVICES; device++) {
                Kit.reportOne(x, device, 1, leaf, device);
            }
            for (int range = 0; range < ranges.length; range++) {
                String what = "leaf " + leaf + ", " + ranges[range][0] + " to " + ranges[range][1];
                int count = x.setGroup(3, leaf, ranges[range][0], ranges[range][1]);
                Bounds.due(what, x.members(3), want[range]);
                Bounds.due(what + ", how many", count, Integer.bitCount(want[range]));
            }
            Bounds.due("another leaf, nothing reported", x.setGroup(3, 5, 0, 99), 0);
        }
    }

    private static void membersAtTheEnds() {
        int[][] ranges = {{0, 0}, {0, 99}, {99, 99}, {1, 98}, {40, 40}, {40, 60}};
        int[] values = {-1, 0, 1, 39, 40, 41, 59, 60, 61, 98, 99};
        for (int[] range : ranges) {
            TwinRegister x = new TwinRegister();
            x.setGroup(2, 11, range[0], range[1]);
            for (int at = 0; at < values.length; at++) {
                Kit.reportOne(x, 7, at + 1, 11, values[at]);
                boolean member = values[at] >= range[0] && values[at] <= range[1];
                Bounds.due(values[at] + " among " + range[0] + " to " + range[1], x.members(2), member ? 128 : 0);
            }
        }
        TwinRegister y = Kit.withReports();
        Bounds.due("full", y.members(0), Bounds.ALL_DEVICES);
        for (int device = 0; device < Kit.DEVICES; device++) {
            Kit.wishOne(y, device, 0, 50);
            Kit.reportOne(y, device, 2, 0, -1);
        }
        Bounds.due("empty, by reports of none, though wished", y.members(0), 0);
        y.sleep(7);
        y.wake(7);
        y.obey(7);
        y.sleep(7);
        Bounds.due("one joins by obeying, and sleeps", y.members(0), 128);
    }

    private static void groupsAtFirst() {
        TwinRegister x = new TwinRegister();
        for (int value = 0; value < 100; value++) {
            Kit.reportOne(x, 3, 1 + value, 0, value);
            Bounds.due("value " + value, x.members(value % 4), 8);
        }
        Kit.reportOne(x, 3, 101, 0, -1);
        Bounds.due("none", x.members(3), 0);
        TwinRegister y = new TwinRegister();
        Kit.reportOne(y, 0, 1, 0, 0);
        Kit.reportOne(y, 7, 1, 0, 99);
        Kit.reportOne(y, 6, 1, 1, 50);
        Kit.reportOne(y, 5, 1, 11, 50);
        for (int group = 0; group < Kit.GROUPS; group++) {
            Bounds.due("group " + group, y.members(group), Kit.bits(0, 7));
        }
    }

    private static TwinRegister withJobs(int jobs) {
        TwinRegister x = Kit.withReports();
        for (int job = 0; job < jobs; job++) {
            x.addJob(0, 1 + job, 50 + job, 1, 1);
        }
        return x;
    }

    private static void jobNumbers() {
        for (int jobs = 0; jobs < 8; jobs++) {
            int before = jobs;
            Bounds.due("the next number", withJobs(jobs).addJob(0, 0, 0, 1, 1), jobs);
            Bounds.refusedEach("state, " + jobs + " jobs, ", () -> withJobs(before), new int[] {-1, jobs, jobs + 1, 8},
                    (x, job) -> x.state(job), Bounds.INDEX);
            Bounds.refusedEach("cancel, " + jobs + " jobs, ", () -> withJobs(before), new int[] {-1, jobs, jobs + 1, 8},
                    (x, job) -> x.cancel(job), Bounds.INDEX);
            Bounds.refusedEach("devices, " + jobs + " jobs, ", () -> withJobs(before), new int[] {-1, jobs, jobs + 1, 8},
                    (x, job) -> x.devices(job, 0), Bounds.INDEX);
        }
        TwinRegister x = withJobs(7);
        x.cancel(6);
        Bounds.due("a cancelled one keeps its number", x.addJob(0, 0, 0, 1, 1), 7);
        Bounds.due("it is cancelled", x.state(6), 2);
        Bounds.due("the next is not", x.state(7), 0);
    }

    private static TwinRegister eightEnded() {
        TwinRegister x = withJobs(8);
        x.wave();
        for (int job = 0; job < 8; job += 2) {
            x.refuse(0, 1 + job, 1);
        }
        x.wave();
        for (int job = 1; job < 8; job += 2) {
            x.cancel(job);
        }
        return x;
    }

    private static void eightJobs() {
        Bounds.due("none", new TwinRegister().jobs(), 0);
        Bounds.due("eight", withJobs(8).jobs(), 8);
        Bounds.refused("a ninth", () -> withJobs(8), r -> r.addJob(0, 0, 0, 1, 1), Bounds.STATE);
        Bounds.refused("a ninth, none runs", TermsBoundariesTest::eightEnded, r -> r.addJob(0, 0, 0, 1, 1), Bounds.STATE);
        TwinRegister x = withJobs(8);
        Bounds.due("all eight go", x.wave(), 8);
        for (int job = 0; job < 8; job++) {
            Bounds.due("job " + job, x.wished(0, 1 + job), 50 + job);
        }
    }

    private static void jobParts() {
        for (int number = 1; number <= 8; number++) {
            TwinRegister x = Kit.withReports();
            x.setGroup(3, 0, 8 - number, 7);
            x.addJob(3, 12 - number, number == 8 ? 99 : 0, number, number);
            Bounds.due("group and rate " + number, x.wave(), number);
            Bounds.due("leaf and value", x.wished(7, 12 - number), number == 8 ? 99 : 0);
            Bounds.due("leaf alone", x.differences(7), 1 << (12 - number));
            for (int device = 7; device > 7 - number; device--) {
                Bounds.due("running, below the bound " + number, x.state(0), 0);
                x.refuse(device, 12 - number, 1);
                x.wave();
            }
            Bounds.due("stopped, at the bound", x.state(0), 1);
        }
        TwinRegister y = withJobs(1);
        y.cancel(0);
        Bounds.due("cancelled", y.state(0), 2);
        Bounds.refused("a cancelled one is not stopped", TermsBoundariesTest::eightEnded, r -> r.cancel(1), Bounds.STATE);
        Bounds.refused("a stopped one is not cancelled", TermsBoundariesTest::eightEnded, r -> r.cancel(0), Bounds.STATE);
    }

    private static void runningAtFirst() {
        TwinRegister x = new TwinRegister();
        for (int job = 0; job < 8; job++) {
            x.addJob(job % 4, 0, 0, 1, 1);
            Bounds.due("job " + job, x.state(job), 0);
            x.cancel(job);
        }
        TwinRegister y = new TwinRegister();
        y.addJob(0, 0, 0, 1, 1);
        y.wave();
        Bounds.due("with an empty group too", y.state(0), 0);
    }

    private static void done() {
        TwinRegister x = Kit.withReports();
        Kit.reportOne(x, 7, 2, 5, 30);
        x.addJob(0, 5, 30, 8, 8);
        x.wave();
        Bounds.due("none in the wave that starts it", x.devices(0, 1), 0);
        x.obey(0);
        Kit.reportOne(x, 1, 2, 5, 29);
        Kit.reportOne(x, 2, 2, 5, 31);
        Kit.reportOne(x, 3, 2, 4, 30);
        x.refuse(4, 5, 1);
        Kit.reportOne(x, 4, 2, 5, 30);
        x.obey(5);
        Kit.wishOne(x, 5, 5, 31);
        x.sleep(5);
        x.obey(6);
        Kit.reportOne(x, 6, 3, 5, -1);
        Bounds.due("none ahead of the wave", x.devices(0, 1), 0);
        x.wave();
        Bounds.due("by what is reported alone", x.devices(0, 1), Kit.bits(0, 4, 5, 7));
        Bounds.due("none has failed", x.devices(0, 2), 0);

        TwinRegister y = Kit.withReports();
        Kit.reportOne(y, 7, 2, 5, 30);
        y.setGroup(0, 0, 0, 6);
        y.addJob(0, 5, 30, 8, 8);
        y.wave();
        y.wave();
        Bounds.due("none that is not started", y.devices(0, 1), 0);

        for (int value = 0; value < 100; value += 99) {
            TwinRegister z = Kit.withReports();
            z.addJob(0, 5, value, 8, 8);
            z.wave();
            Kit.reportOne(z, 0, 2, 5, value);
            z.wave();
            Bounds.due("value " + value + ", and none is no value", z.devices(0, 1), 1);
        }
    }

    private static void failed() {
        TwinRegister x = Bounds.withJob(8, 8);
        x.wave();
        x.refuse(0, 5, 1);
        x.refuse(1, 5, 9);
        Kit.reportOne(x, 1, 2, 5, 30);
        x.refuse(2, 5, 1);
        Kit.wishOne(x, 2, 5, 30);
        Kit.wishOne(x, 3, 5, 31);
        x.refuse(3, 5, 1);
        x.refuse(4, 5, 1);
        Kit.wishOne(x, 4, 5, -1);
        Kit.wishOne(x, 5, 6, 30);
        x.refuse(5, 6, 1);
        x.refuse(6, 5, 1);
        Kit.reportOne(x, 6, 2, 5, 29);
        x.sleep(6);
        Kit.wishOne(x, 7, 5, 30);
        x.refuse(7, 5, 9);
        Bounds.due("none ahead of the wave", x.devices(0, 2), 0);
        x.wave();
        Bounds.due("wished by then, and refused", x.devices(0, 2), Kit.bits(0, 6, 7));
        Bounds.due("done comes first", x.devices(0, 1), Kit.bits(1));

        TwinRegister y = Kit.withReports();
        Kit.wishOne(y, 0, 5, 30);
        y.refuse(0, 5, 1);
        y.addJob(0, 5, 30, 1, 1);
        y.wave();
        y.wave();
        Bounds.due("a refusal ahead of the start is taken back", y.devices(0, 2), 0);
        Kit.wishOne(y, 7, 5, 30);
        y.refuse(7, 5, 1);
        y.wave();
        Bounds.due("none that is not started", y.devices(0, 2), 0);
    }

    private static void staysSo() {
        TwinRegister x = Bounds.withJob(2, 2);
        x.wave();
        x.obey(0);
        x.refuse(1, 5, 1);
        x.wave();
        Kit.reportOne(x, 0, 3, 5, -1);
        x.refuse(0, 5, 1);
        Kit.reportOne(x, 1, 2, 5, 30);
        x.wave();
        Bounds.due("done, though refused now", x.devices(0, 1), 1);
        Bounds.due("failed, though reported now", x.devices(0, 2), 2);
        Kit.wishOne(x, 1, 5, 30);
        x.wave();
        Bounds.due("failed, though wished anew", x.devices(0, 2), 2);
        Bounds.due("below the bound", x.state(0), 0);
        Kit.reportOne(x, 0, 4, 0, -1);
        Kit.reportOne(x, 1, 3, 0, -1);
        x.wave();
        Bounds.due("done, though no member now", x.devices(0, 1), 1);
        Bounds.due("failed, though no member now", x.devices(0, 2), 2);
        x.cancel(0);
        x.wave();
        Bounds.due("done, though cancelled", x.devices(0, 1), 1);
        Bounds.due("failed, though cancelled", x.devices(0, 2), 2);
    }

    private static void stoppedAtTheBound() {
        for (int bound = 1; bound <= 8; bound++) {
            for (int refusing = 0; refusing <= 8; refusing++) {
                TwinRegister x = Bounds.withJob(8, bound);
                x.wave();
                for (int device = 0; device < refusing; device++) {
                    x.refuse(7 - device, 5, 1);
                }
                Bounds.due("running ahead of the wave", x.state(0), 0);
                x.wave();
                Bounds.due("bound " + bound + ", failed " + refusing, x.state(0), refusing >= bound ? 1 : 0);
            }
        }
        TwinRegister y = Bounds.withJob(3, 2);
        y.wave();
        y.refuse(0, 5, 1);
        Bounds.due("below the bound, others are started", y.wave(), 3);
        y.refuse(4, 5, 1);
        y.obey(1);
        Bounds.due("at the bound, none is started", y.wave(), 0);
        Bounds.due("one after the other counts", y.state(0), 1);
        Bounds.due("who is done is told all the same", y.devices(0, 1), Kit.bits(1));
        y.obey(2);
        y.refuse(3, 5, 1);
        Bounds.due("stopped, none is started", y.wave(), 0);
        Bounds.due("stopped, none is done", y.devices(0, 1), Kit.bits(1));
        Bounds.due("stopped, none fails", y.devices(0, 2), Kit.bits(0, 4));
        Bounds.due("stopped still", y.state(0), 1);
    }

    private static void startedByTheRate() {
        for (int rate = 1; rate <= 8; rate++) {
            TwinRegister x = Bounds.withJob(rate, 8);
            x.sleep(0);
            for (int started = 0; started < 8; started += rate) {
                Bounds.due("rate " + rate + " behind " + started, x.wave(), Math.min(rate, 8 - started));
                Bounds.due("by rising numbers", x.devices(0, 0), (1 << Math.min(started + rate, 8)) - 1);
            }
            Bounds.due("none is left", x.wave(), 0);
            Bounds.due("each once", x.version(0) + x.version(7), 2);
        }
        lateAndGone();
        draftStays();
    }

    private static void lateAndGone() {
        TwinRegister x = new TwinRegister();
        x.addJob(0, 5, 30, 2, 8);
        Bounds.due("an empty group", x.wave(), 0);
        Kit.reportOne(x, 6, 1, 0, 0);
        Bounds.due("fewer members than the rate", x.wave(), 1);
        Kit.reportOne(x, 7, 1, 0, 99);
        Kit.reportOne(x, 0, 1, 0, 1);
        Kit.reportOne(x, 3, 1, 0, 1);
        Bounds.due("as many as the rate, a lower one that joins late ahead", x.wave(), 2);
        Bounds.due("by rising numbers", x.devices(0, 0), Kit.bits(0, 3, 6));
        Kit.reportOne(x, 7, 2, 0, -1);
        Bounds.due("one that has gone", x.wave(), 0);
        Kit.reportOne(x, 0, 2, 0, -1);
        Kit.reportOne(x, 0, 3, 0, 1);
        Bounds.due("one that comes back is not started again", x.wave(), 0);
        x.setGroup(0, 11, 0, 99);
        Bounds.due("the group is set anew, and empty", x.wave(), 0);
        Kit.reportOne(x, 7, 3, 11, 0);
        Bounds.due("it fills", x.wave(), 1);
        Bounds.due("all of them", x.devices(0, 0), Kit.bits(0, 3, 6, 7));
    }

    private static void draftStays() {
        TwinRegister x = Bounds.withJob(8, 8);
        x.put(5, 77);
        x.put(11, -1);
        Bounds.due("all", x.wave(), 8);
        Bounds.due("the value, not the draft's", x.wished(7, 5), 30);
        Bounds.due("the draft stays", x.put(5, 77), 2);
        x.wish(7, 1);
        Bounds.due("and is wished later", x.wished(7, 5), 77);
        Bounds.due("as it was", x.wished(6, 5), 30);
        TwinRegister y = Bounds.withJob(8, 8);
        Bounds.due("an empty draft will do", y.wave(), 8);
        Bounds.thrown("and stays empty", y, r -> r.wish(0, -1), Bounds.STATE);
        TwinRegister z = Kit.withReports();
        z.put(5, 31);
        z.put(4, 31);
        z.wish(0, -1);
        z.refuse(0, 5, 1);
        z.refuse(0, 4, 2);
        z.addJob(0, 5, 30, 1, 1);
        z.wave();
        Bounds.due("this leaf's refusal is taken back", z.why(0, 5), 0);
        Bounds.due("no other one's", z.why(0, 4), 2);
        Bounds.due("no other wish", z.wished(0, 4), 31);
    }

    private static void thrownChangesNothing() {
        Kit.CallOf[] calls = {
            r -> r.put(12, 5), r -> r.put(8, 100), r -> r.drop(3), r -> r.wish(8, -1), r -> r.wish(0, 50),
            r -> r.report(8, 2), r -> r.report(0, 3), r -> r.report(6, 2), r -> r.report(6, 1), r -> r.obey(8),
            r -> r.obey(6), r -> r.refuse(8, 6, 1), r -> r.refuse(0, 12, 1), r -> r.refuse(0, 6, 10),
            r -> r.refuse(6, 1, 1), r -> r.refuse(0, 0, 1), r -> r.sleep(8) ? 1 : 0, r -> r.wake(8),
            r -> r.setGroup(4, 0, 0, 9), r -> r.setGroup(1, 12, 0, 9), r -> r.setGroup(1, 1, -1, 9),
            r -> r.setGroup(1, 1, 3, 2), r -> r.addJob(4, 0, 0, 1, 1), r -> r.addJob(0, 12, 0, 1, 1),
            r -> r.addJob(0, 0, 100, 1, 1), r -> r.addJob(0, 0, 0, 9, 1), r -> r.addJob(0, 0, 0, 1, 9),
            r -> r.addJob(0, 0, 0, 1, 1), r -> r.cancel(8), r -> r.cancel(0), r -> r.cancel(5),
            r -> r.version(8), r -> r.heard(8), r -> r.wished(8, 0), r -> r.reported(0, 12), r -> r.why(8, 12),
            r -> r.differences(8), r -> r.differencesAnew(8), r -> r.members(4), r -> r.state(8),
            r -> r.devices(8, 0), r -> r.devices(0, 3),
        };
        for (int number = 0; number < calls.length; number++) {
            Kit.CallOf call = calls[number];
            String told = Kit.told(() -> call.on(Kit.busy()));
            Bounds.due("call " + number + " throws " + told, told.endsWith("Exception"), true);
            Bounds.refused("call " + number, Kit::busy, call, told);
        }
        Bounds.refused("an empty draft", () -> withJobs(1), r -> r.wish(0, 0), Bounds.STATE);
    }

    private static void firstNamedIsThrown() {
        Bounds.Setup full = Kit::busy;
        Bounds.refused("put: leaf, value", full, r -> r.put(12, 100), Bounds.INDEX);
        Bounds.refused("wish: device, version", full, r -> r.wish(8, 50), Bounds.INDEX);
        Bounds.refused("wish: device, empty draft", TwinRegister::new, r -> r.wish(-1, 0), Bounds.INDEX);
        Bounds.refused("report: device, number", full, r -> r.report(8, 0), Bounds.INDEX);
        Bounds.refused("report: number, asleep", full, r -> r.report(6, 0), Bounds.ARGUMENT);
        Bounds.refused("report: far number, asleep", full, r -> r.report(6, 3), Bounds.ARGUMENT);
        Bounds.refused("refuse: device, leaf, reason", full, r -> r.refuse(8, 12, 0), Bounds.INDEX);
        Bounds.refused("refuse: leaf, reason, asleep", full, r -> r.refuse(6, 12, 0), Bounds.INDEX);
        Bounds.refused("refuse: leaf, asleep", full, r -> r.refuse(6, -1, 1), Bounds.INDEX);
        Bounds.refused("refuse: reason, asleep", full, r -> r.refuse(6, 1, 10), Bounds.ARGUMENT);
        Bounds.refused("refuse: reason, no difference", full, r -> r.refuse(0, 0, 0), Bounds.ARGUMENT);
        Bounds.refused("setGroup: group, low", full, r -> r.setGroup(4, 0, -1, 9), Bounds.INDEX);
        Bounds.refused("setGroup: leaf, high", full, r -> r.setGroup(0, 12, 5, 4), Bounds.INDEX);
        Bounds.refused("addJob: group, value, full", full, r -> r.addJob(4, 0, 100, 1, 1), Bounds.INDEX);
        Bounds.refused("addJob: leaf, rate, full", full, r -> r.addJob(0, 12, 0, 9, 1), Bounds.INDEX);
        Bounds.refused("addJob: group, full", full, r -> r.addJob(-1, 0, 0, 1, 1), Bounds.INDEX);
        Bounds.refused("addJob: leaf, full", full, r -> r.addJob(0, -1, 0, 1, 1), Bounds.INDEX);
        Bounds.refused("addJob: value, full", full, r -> r.addJob(0, 0, -1, 1, 1), Bounds.ARGUMENT);
        Bounds.refused("addJob: rate, full", full, r -> r.addJob(0, 0, 0, 0, 1), Bounds.ARGUMENT);
        Bounds.refused("addJob: bound, full", full, r -> r.addJob(0, 0, 0, 1, 0), Bounds.ARGUMENT);
        Bounds.refused("devices: job, kind", full, r -> r.devices(8, 3), Bounds.INDEX);
        Bounds.refused("devices: no job, kind", TwinRegister::new, r -> r.devices(0, -1), Bounds.INDEX);
    }

    private static void noSuchOne() {
        dueTaking(TAKING_ANOTHER, Bounds::ready);
        for (Taking taking : TAKING_A_DEVICE) {
            Bounds.thrown(taking.name + ", a new object", new TwinRegister(), x -> taking.call.on(x, 8), Bounds.INDEX);
        }
        for (Taking taking : TAKING_A_LEAF) {
            Bounds.thrown(taking.name + ", a new object", new TwinRegister(), x -> taking.call.on(x, 12), Bounds.INDEX);
        }
        for (Taking taking : TAKING_ANOTHER) {
            int number = taking.numbers == 1 ? 0 : taking.numbers;
            Bounds.thrown(taking.name + ", a new object", new TwinRegister(), x -> taking.call.on(x, number), Bounds.INDEX);
        }
    }

    private static void readingsChangeNothing() {
        for (int seed = 1; seed < 20; seed++) {
            TwinRegister x = Kit.busy();
            for (Taking taking : List.of(TAKING_A_DEVICE).subList(6, 13)) {
                readEach(x, taking, 8);
            }
            for (Taking taking : List.of(TAKING_A_LEAF).subList(4, 7)) {
                readEach(x, taking, 12);
            }
            readEach(x, TAKING_ANOTHER[3], 4);
            readEach(x, TAKING_ANOTHER[5], 8);
            readEach(x, TAKING_ANOTHER[6], 8);
            x.jobs();
            Kit.told(() -> x.devices(7, 1));
            Kit.told(() -> x.devices(7, 2));
            Kit.told(() -> x.devices(7, 3));
            Kit.dueSame("future " + seed, Kit.future(x, seed), Kit.future(Kit.busy(), seed));
        }
    }

    /** One number too many is asked for as well: a reading that throws changes nothing either. */
    private static void readEach(TwinRegister x, Taking taking, int numbers) {
        for (int number = 0; number <= numbers; number++) {
            int each = number;
            Kit.told(() -> taking.call.on(x, each));
        }
    }
}
