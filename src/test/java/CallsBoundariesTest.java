/** One test for each sentence of promises 1 to 13 that names a boundary case. */
public final class CallsBoundariesTest {
    private static final String NO_SUCH_DEVICE = "Throws `IndexOutOfBoundsException` if there is no such device";
    private static final String ASLEEP = "Throws `IllegalStateException` if the device is asleep";
    private static final String THE_DEVICE = "- `device`: the device";
    private static final String THE_LEAF = "- `leaf`: the leaf";

    private CallsBoundariesTest() {
    }

    public static void main(String[] args) {
        newObject();
        put();
        drop();
        wish();
        report();
        obey();
        refuse();
        sleep();
        wake();
        setGroup();
        addJob();
        wave();
        cancel();
        Kit.end("CallsBoundariesTest");
    }

    private static void devicesOnly(Bounds.Setup setup, Bounds.CallWith call) {
        Bounds.takenEach("device", setup, 0, 7, call);
    }

    private static void noOtherDevice(Bounds.CallWith call) {
        Bounds.refusedEach("ready, device", Bounds::ready, Bounds.outside(0, 7), call, Bounds.INDEX);
        Bounds.refusedEach("new, device", TwinRegister::new, new int[] {-1, 8}, call, Bounds.INDEX);
    }

    private static TwinRegister emptyDraft() {
        TwinRegister x = Bounds.ready();
        x.report(0, 2);
        return x;
    }

    // ---- promise 1

    private static void newObject() {
        Bounds promise = new Bounds("Promise 1");
        promise.test("Nothing is wished and reported;", () -> {
            TwinRegister x = new TwinRegister();
            for (int device = 0; device < Kit.DEVICES; device++) {
                for (int leaf = 0; leaf < Kit.LEAVES; leaf++) {
                    Bounds.due("wished", x.wished(device, leaf), -1);
                    Bounds.due("reported", x.reported(device, leaf), -1);
                    Bounds.due("why", x.why(device, leaf), 0);
                }
                Bounds.due("differences", x.differences(device), 0);
                Bounds.due("version", x.version(device), 0);
            }
            for (int group = 0; group < Kit.GROUPS; group++) {
                Bounds.due("members", x.members(group), 0);
            }
            Bounds.thrown("nothing in the draft", x, r -> r.wish(0, -1), Bounds.STATE);
            for (int device = 0; device < Kit.DEVICES; device++) {
                Bounds.due("the first report", x.report(device, 1), 0);
                Bounds.due("nothing to obey", x.obey(device), 0);
            }
        });
        promise.test("no jobs.", () -> {
            TwinRegister x = new TwinRegister();
            Bounds.due("jobs", x.jobs(), 0);
            Bounds.due("a wave", x.wave(), 0);
            Bounds.thrown("state", x, r -> r.state(0), Bounds.INDEX);
            Bounds.thrown("cancel", x, r -> r.cancel(0), Bounds.INDEX);
            Bounds.thrown("devices", x, r -> r.devices(0, 0), Bounds.INDEX);
            Bounds.due("the first", x.addJob(0, 0, 0, 1, 1), 0);
        });
        promise.end();
    }

    // ---- promise 2

    private static void put() {
        Bounds promise = new Bounds("Promise 2");
        promise.test("- `leaf`: 0 to 11", () -> {
            Bounds.takenEach("leaf", Bounds::ready, 0, 11, (x, leaf) -> x.put(leaf, 5));
            Bounds.thrown("-1", Bounds.ready(), x -> x.put(-1, 5), Bounds.INDEX);
            Bounds.thrown("12", Bounds.ready(), x -> x.put(12, 5), Bounds.INDEX);
        });
        promise.test("- `value`: 0 to 99;", () -> {
            for (int value = 0; value < 100; value++) {
                TwinRegister x = new TwinRegister();
                x.put(11, value);
                x.report(0, 1);
                Bounds.due("value " + value, x.reported(0, 11), value);
            }
        });
        promise.test("-1 for a removal", () -> {
            TwinRegister x = new TwinRegister();
            Kit.wishOne(x, 0, 11, 0);
            Kit.reportOne(x, 0, 1, 11, 0);
            Bounds.due("a removal counts", x.put(11, -1), 1);
            x.wish(0, -1);
            Bounds.due("no more wished", x.wished(0, 11), -1);
            Bounds.due("still reported", x.reported(0, 11), 0);
            Kit.reportOne(x, 0, 2, 11, -1);
            Bounds.due("no more reported", x.reported(0, 11), -1);
        });
        promise.test("Returns how many leaves the draft has then.", CallsBoundariesTest::countsOfPut);
        promise.test("Throws `IndexOutOfBoundsException` if there is no such leaf", () -> {
            Bounds.refusedEach("leaf", Bounds::ready, Bounds.outside(0, 11), (x, leaf) -> x.put(leaf, 5), Bounds.INDEX);
            Bounds.refusedEach("a removal", Bounds::ready, new int[] {-1, 12},
                    (x, leaf) -> x.put(leaf, -1), Bounds.INDEX);
            Bounds.refusedEach("a wrong value", Bounds::ready, new int[] {-1, 12},
                    (x, leaf) -> x.put(leaf, 100), Bounds.INDEX);
        });
        promise.test("Throws `IllegalArgumentException` if value is out of range", () -> {
            Bounds.refusedEach("value", Bounds::ready, Bounds.outside(-1, 99),
                    (x, value) -> x.put(11, value), Bounds.ARGUMENT);
            Bounds.refusedEach("over a value", Bounds::ready, new int[] {-2, 100},
                    (x, value) -> x.put(3, value), Bounds.ARGUMENT);
        });
        promise.end("Puts a leaf into the draft.");
    }

    private static void countsOfPut() {
        TwinRegister x = new TwinRegister();
        for (int leaf = 0; leaf < Kit.LEAVES; leaf++) {
            Bounds.due("one more", x.put(leaf, leaf - 1), leaf + 1);
            Bounds.due("the same again", x.put(leaf, leaf), leaf + 1);
        }
        Bounds.due("full", x.put(0, -1), 12);
        x.wish(0, -1);
        Bounds.due("empty behind a wish", x.put(0, 0), 1);
        x.report(0, 1);
        Bounds.due("empty behind a report", x.put(11, 0), 1);
        Bounds.due("over a section", x.drop(2) + x.put(11, 0), 8);
        x.report(0, 1);
        Bounds.due("empty behind a doubled report", x.put(5, 0), 1);
    }

    // ---- promise 3

    private static void drop() {
        Bounds promise = new Bounds("Promise 3");
        promise.test("- `section`: 0 to 2", () -> {
            Bounds.takenEach("section", Bounds::ready, 0, 2, (x, section) -> x.drop(section));
            Bounds.thrown("-1", Bounds.ready(), x -> x.drop(-1), Bounds.INDEX);
            Bounds.thrown("3", Bounds.ready(), x -> x.drop(3), Bounds.INDEX);
        });
        promise.test("Returns how many leaves the draft has then.", () -> {
            TwinRegister x = new TwinRegister();
            Bounds.due("empty before", x.drop(2), 4);
            Bounds.due("the same again", x.drop(2), 4);
            x.put(3, 0);
            Bounds.due("one leaf besides", x.drop(1), 9);
            Bounds.due("over a leaf", x.drop(0), 12);
            Bounds.due("full before", x.drop(1), 12);
            x.report(0, 1);
            Bounds.due("empty again", x.drop(0), 4);
        });
        promise.test("Throws `IndexOutOfBoundsException` if there is no such section", () -> {
            Bounds.refusedEach("section", Bounds::ready, Bounds.outside(0, 2),
                    (x, section) -> x.drop(section), Bounds.INDEX);
            Bounds.refusedEach("empty, section", CallsBoundariesTest::emptyDraft, new int[] {-1, 3},
                    (x, section) -> x.drop(section), Bounds.INDEX);
        });
        promise.end("Drops a section in the draft.");
    }

    // ---- promise 4

    private static void wish() {
        Bounds promise = new Bounds("Promise 4");
        promise.test(THE_DEVICE, () -> devicesOnly(Bounds::ready, (x, device) -> x.wish(device, 1)));
        promise.test("- `expected`: the version that it must have;", () -> {
            TwinRegister x = new TwinRegister();
            for (int version = 0; version < 5; version++) {
                x.put(11, version);
                int below = version - 1;
                int above = version + 1;
                Bounds.thrown("above " + version, x, r -> r.wish(7, above), Bounds.STATE);
                // One below 0 stands for any version, and is asked for on its own.
                if (below >= 0) {
                    Bounds.thrown("below " + version, x, r -> r.wish(7, below), Bounds.STATE);
                }
                Bounds.due("the version " + version, x.wish(7, version), version + 1);
            }
            x.sleep(7);
            Bounds.due("of one asleep", Kit.wishOne(x, 7, 0, 0), 6);
            x.put(0, 1);
            Bounds.thrown("the version that was heard is another one", x, r -> r.wish(7, 5), Bounds.STATE);
            Bounds.due("the version, asleep", x.wish(7, 6), 7);
        });
        promise.test("-1 for any", () -> {
            TwinRegister x = new TwinRegister();
            for (int version = 0; version < 5; version++) {
                Bounds.due("at " + version, Kit.wishOne(x, 7, 11, 5), version + 1);
            }
        });
        promise.test("Returns its version then.", () -> {
            TwinRegister x = Bounds.withJob(8, 8);
            Bounds.due("the first", Kit.wishOne(x, 0, 0, 0), 1);
            x.wave();
            Bounds.due("behind a job's", Kit.wishOne(x, 0, 0, 0), 3);
            x.drop(0);
            Bounds.due("behind one that removes", x.wish(0, 3), 4);
            Bounds.due("it is its version", x.version(0), 4);
            Bounds.due("its own", Kit.wishOne(x, 7, 0, 0), 2);
        });
        promise.test(NO_SUCH_DEVICE, () -> {
            noOtherDevice((x, device) -> x.wish(device, -1));
            Bounds.refusedEach("with a version", Bounds::ready, new int[] {-1, 8},
                    (x, device) -> x.wish(device, 1), Bounds.INDEX);
            Bounds.refusedEach("with another one", Bounds::ready, new int[] {-1, 8},
                    (x, device) -> x.wish(device, 9), Bounds.INDEX);
        });
        promise.test("Throws `IllegalStateException` if the draft has no leaves, or its version is another one", () -> {
            Bounds.refusedEach("no leaves, any version", CallsBoundariesTest::emptyDraft, new int[] {-1, 0, 1, 2},
                    (x, expected) -> x.wish(0, expected), Bounds.STATE);
            Bounds.refused("no leaves, a new object", TwinRegister::new, x -> x.wish(7, 0), Bounds.STATE);
            Bounds.refusedEach("another version", Bounds::ready,
                    new int[] {0, 2, -2, -3, 257, 65537, Bounds.LEAST, Bounds.LEAST + 1, Bounds.MOST},
                    (x, expected) -> x.wish(7, expected), Bounds.STATE);
        });
        promise.end("Wishes the draft of a device.");
    }

    // ---- promise 5

    private static void report() {
        Bounds promise = new Bounds("Promise 5");
        promise.test("A device reports the draft, which may be empty.", () -> {
            TwinRegister x = new TwinRegister();
            Bounds.due("empty, at first", x.report(7, 1), 0);
            Bounds.fillDraft(x, 9);
            Bounds.due("full", x.report(7, 2), 0);
            Bounds.due("empty again", x.report(7, 3), 0);
            for (int leaf = 0; leaf < Kit.LEAVES; leaf++) {
                Bounds.due("what was full stays, leaf " + leaf, x.reported(7, leaf), 9);
            }
            Bounds.due("each has a number", x.report(7, 3), -1);
        });
        promise.test(THE_DEVICE, () -> devicesOnly(Bounds::ready, (x, device) -> x.report(device, 2)));
        promise.test("- `number`: the number of the report", () -> {
            TwinRegister x = new TwinRegister();
            for (int number = 1; number < 40; number++) {
                Bounds.due("the next " + number, Kit.reportOne(x, 7, number, 11, number), 0);
                Bounds.due("taken", x.reported(7, 11), number);
            }
            Bounds.due("the first again", Kit.reportOne(x, 7, 1, 11, 0), -1);
            Bounds.due("the next still", Kit.reportOne(x, 7, 40, 11, 40), 0);
            Bounds.due("of another device", Kit.reportOne(x, 6, 1, 11, 0), 0);
        });
        promise.test("Returns how many leaves differ then;", CallsBoundariesTest::countsOfReport);
        promise.test("-1 if it is a doubled one (the draft is empty then, too).", () -> {
            TwinRegister x = Bounds.ready();
            Bounds.due("the latest one again", x.report(7, 1), -1);
            Bounds.thrown("the draft is empty", x, r -> r.wish(0, -1), Bounds.STATE);
            Bounds.due("nothing is reported", x.reported(7, 3), -1);
            Bounds.due("empty, doubled", x.report(7, 1), -1);
            Bounds.fillDraft(x, 40);
            Bounds.due("full, doubled", x.report(7, 1), -1);
            Bounds.due("the draft is empty too", x.put(0, 0), 1);
            Bounds.due("it differs still", x.differences(7), 1);
            x.obey(7);
            Bounds.due("doubled by what was obeyed", x.report(7, 2), -1);
            Bounds.due("obeyed still", x.reported(7, 0), 40);
            Bounds.due("empty once more", x.drop(0), 4);
        });
        promise.test(NO_SUCH_DEVICE, () -> {
            noOtherDevice((x, device) -> x.report(device, 1));
            Bounds.refusedEach("the next", Bounds::ready, new int[] {-1, 8},
                    (x, device) -> x.report(device, 2), Bounds.INDEX);
            Bounds.refusedEach("a wrong number", Bounds::ready, new int[] {-1, 8},
                    (x, device) -> x.report(device, 0), Bounds.INDEX);
        });
        promise.test("Throws `IllegalArgumentException` if number is below 1, or above that of the latest one and 1", () -> {
            Bounds.refusedEach("at first", TwinRegister::new, Bounds.outside(1, 1),
                    (x, number) -> x.report(7, number), Bounds.ARGUMENT);
            Bounds.refusedEach("behind one", Bounds::ready, Bounds.outside(1, 2),
                    (x, number) -> x.report(7, number), Bounds.ARGUMENT);
            Bounds.takenEach("behind one", Bounds::ready, 1, 2, (x, number) -> x.report(7, number));
            Bounds.refusedEach("asleep", Bounds::readyAsleep, new int[] {-1, 0, 3, Bounds.LEAST, Bounds.MOST},
                    (x, number) -> x.report(7, number), Bounds.ARGUMENT);
        });
        promise.test(ASLEEP, () -> {
            Bounds.refused("the next", Bounds::readyAsleep, x -> x.report(7, 2), Bounds.STATE);
            Bounds.refused("a doubled one", Bounds::readyAsleep, x -> x.report(7, 1), Bounds.STATE);
            TwinRegister x = Bounds.readyAsleep();
            x.wake(7);
            Bounds.due("awake, the next", x.report(7, 2), 1);
            Bounds.thrown("another one sleeps still", x, r -> r.report(6, 2), Bounds.STATE);
        });
        promise.end();
    }

    private static void countsOfReport() {
        TwinRegister x = new TwinRegister();
        Bounds.due("none wished", x.report(7, 1), 0);
        Bounds.fillDraft(x, 50);
        x.wish(7, -1);
        Bounds.due("all differ", x.report(7, 2), 12);
        for (int leaf = 0; leaf < Kit.LEAVES; leaf++) {
            Bounds.due("one less", Kit.reportOne(x, 7, 3 + leaf, leaf, 50), 11 - leaf);
        }
        Bounds.fillDraft(x, 51);
        Bounds.due("all differ from another one", x.report(7, 15), 12);
        for (int leaf = 0; leaf < 3; leaf++) {
            x.refuse(7, leaf, 1);
        }
        x.drop(0);
        Bounds.due("but the refused ones", x.report(7, 16), 9);
        Bounds.fillDraft(x, 50);
        Bounds.due("none", x.report(7, 17), 0);
    }

    // ---- promise 6

    private static void obey() {
        Bounds promise = new Bounds("Promise 6");
        promise.test("A device does all that is wished of it: it reports the wished values of all leaves that differ, as its"
                + " next report (also if none differs);", CallsBoundariesTest::whatIsObeyed);
        promise.test("the draft stays.", () -> {
            TwinRegister x = Bounds.ready();
            x.put(0, 41);
            x.obey(7);
            Bounds.due("two leaves", x.put(0, 41), 2);
            x.wish(7, -1);
            Bounds.due("as they were", x.wished(7, 3), 33);
            Bounds.due("not reported", x.reported(7, 3), -1);
            x.obey(6);
            Bounds.thrown("an empty one stays empty", x, r -> r.wish(7, -1), Bounds.STATE);
        });
        promise.test(THE_DEVICE, () -> devicesOnly(Bounds::ready, (x, device) -> x.obey(device)));
        promise.test("Returns how many leaves.", () -> {
            for (int leaves = 0; leaves <= 12; leaves++) {
                TwinRegister x = new TwinRegister();
                for (int leaf = 0; leaf < leaves; leaf++) {
                    Kit.wishOne(x, 7, leaf, 99 - leaf);
                }
                Bounds.due(leaves + " leaves", x.obey(7), leaves);
                Bounds.due("none behind that", x.obey(7), 0);
            }
        });
        promise.test(NO_SUCH_DEVICE, () -> noOtherDevice((x, device) -> x.obey(device)));
        promise.test(ASLEEP, () -> {
            Bounds.refused("one differs", Bounds::readyAsleep, x -> x.obey(7), Bounds.STATE);
            Bounds.refused("none differs", () -> asleepOnly(7), x -> x.obey(7), Bounds.STATE);
            TwinRegister x = Bounds.readyAsleep();
            x.wake(7);
            Bounds.due("awake", x.obey(7), 1);
        });
        promise.end();
    }

    private static TwinRegister asleepOnly(int device) {
        TwinRegister x = new TwinRegister();
        x.sleep(device);
        return x;
    }

    private static void whatIsObeyed() {
        TwinRegister x = new TwinRegister();
        Bounds.due("none differs", x.obey(7), 0);
        Bounds.due("it was report 1", x.report(7, 1), -1);
        Bounds.thrown("not two", x, r -> r.report(7, 3), Bounds.ARGUMENT);
        Bounds.fillDraft(x, 0);
        x.wish(7, -1);
        Kit.reportOne(x, 7, 2, 4, 99);
        x.refuse(7, 4, 1);
        x.refuse(7, 11, 1);
        Kit.wishOne(x, 7, 8, -1);
        Bounds.due("all that differ", x.obey(7), 9);
        int[] want = {0, 0, 0, 0, 99, 0, 0, 0, -1, 0, 0, -1};
        for (int leaf = 0; leaf < Kit.LEAVES; leaf++) {
            Bounds.due("leaf " + leaf, x.reported(7, leaf), want[leaf]);
            Bounds.due("of another device, leaf " + leaf, x.reported(6, leaf), -1);
        }
        Bounds.due("refused still", x.why(7, 11), 1);
        Bounds.due("no difference is kept", x.differences(7), 0);
        Bounds.due("nor found", x.differencesAnew(7), 0);
        Bounds.due("it was report 3", x.report(7, 3), -1);
        Bounds.due("4 is next", x.report(7, 4), 0);
        Kit.wishOne(x, 7, 11, 0);
        x.addJob(0, 10, 99, 1, 1);
        x.wave();
        Bounds.due("wished anew, and by a job", x.obey(7), 2);
        Bounds.due("wished anew", x.reported(7, 11), 0);
        Bounds.due("by a job", x.reported(7, 10), 99);
    }

    // ---- promise 7

    private static void refuse() {
        Bounds promise = new Bounds("Promise 7");
        promise.test(THE_DEVICE, () -> devicesOnly(Bounds::ready, (x, device) -> x.refuse(device, 0, 1)));
        promise.test(THE_LEAF, () -> Bounds.takenEach("leaf", CallsBoundariesTest::allDiffer, 0, 11,
                (x, leaf) -> x.refuse(7, leaf, 1)));
        promise.test("- `reason`: 1 to 9", () -> {
            for (int reason = 1; reason <= 9; reason++) {
                TwinRegister x = allDiffer();
                x.refuse(7, 11, reason);
                Bounds.due("reason " + reason, x.why(7, 11), reason);
            }
        });
        promise.test("Returns how many leaves differ then.", () -> {
            TwinRegister x = allDiffer();
            for (int leaf = 0; leaf < Kit.LEAVES; leaf++) {
                Bounds.due("one less", x.refuse(7, leaf, 1 + leaf % 9), 11 - leaf);
            }
        });
        promise.test("Throws `IndexOutOfBoundsException` if there is no such device or leaf", () -> {
            noOtherDevice((x, device) -> x.refuse(device, 0, 1));
            Bounds.refusedEach("leaf", CallsBoundariesTest::allDiffer, Bounds.outside(0, 11),
                    (x, leaf) -> x.refuse(7, leaf, 1), Bounds.INDEX);
            Bounds.refusedEach("both", CallsBoundariesTest::allDiffer, new int[] {-1, 12},
                    (x, leaf) -> x.refuse(8, leaf, 10), Bounds.INDEX);
            Bounds.refusedEach("leaf, asleep", Bounds::readyAsleep, new int[] {-1, 12},
                    (x, leaf) -> x.refuse(7, leaf, 0), Bounds.INDEX);
        });
        promise.test("Throws `IllegalArgumentException` if reason is out of range", () -> {
            Bounds.refusedEach("reason", CallsBoundariesTest::allDiffer, Bounds.outside(1, 9),
                    (x, reason) -> x.refuse(7, 11, reason), Bounds.ARGUMENT);
            Bounds.refusedEach("asleep, reason", Bounds::readyAsleep, new int[] {0, 10},
                    (x, reason) -> x.refuse(7, 0, reason), Bounds.ARGUMENT);
            Bounds.refusedEach("no difference, reason", Bounds::ready, new int[] {0, 10},
                    (x, reason) -> x.refuse(7, 1, reason), Bounds.ARGUMENT);
        });
        promise.test("Throws `IllegalStateException` if the device is asleep, or the leaf does not differ",
                CallsBoundariesTest::whatCannotBeRefused);
        promise.end("A device refuses a leaf.");
    }

    private static TwinRegister allDiffer() {
        TwinRegister x = new TwinRegister();
        Bounds.fillDraft(x, 7);
        x.wish(7, -1);
        return x;
    }

    private static void whatCannotBeRefused() {
        Bounds.refused("asleep", Bounds::readyAsleep, x -> x.refuse(7, 0, 1), Bounds.STATE);
        Bounds.refused("asleep, no difference", Bounds::readyAsleep, x -> x.refuse(7, 1, 1), Bounds.STATE);
        Bounds.refused("neither wished nor reported", TwinRegister::new, x -> x.refuse(7, 11, 1), Bounds.STATE);
        Bounds.refused("reported, not wished", Bounds::ready, x -> x.refuse(7, 1, 1), Bounds.STATE);
        Bounds.refused("reported as wished", () -> {
            TwinRegister x = allDiffer();
            Kit.reportOne(x, 7, 1, 11, 7);
            return x;
        }, x -> x.refuse(7, 11, 1), Bounds.STATE);
        Bounds.refused("refused already", () -> {
            TwinRegister x = allDiffer();
            x.refuse(7, 11, 2);
            return x;
        }, x -> x.refuse(7, 11, 3), Bounds.STATE);
        Bounds.refused("no more wished", () -> {
            TwinRegister x = allDiffer();
            Kit.wishOne(x, 7, 11, -1);
            return x;
        }, x -> x.refuse(7, 11, 1), Bounds.STATE);
        Bounds.refused("all obeyed", () -> {
            TwinRegister x = allDiffer();
            x.obey(7);
            return x;
        }, x -> x.refuse(7, 0, 1), Bounds.STATE);
    }

    // ---- promise 8

    private static void sleep() {
        Bounds promise = new Bounds("Promise 8");
        promise.test(THE_DEVICE, () -> devicesOnly(Bounds::ready, (x, device) -> x.sleep(device) ? 1 : 0));
        promise.test("Returns whether it was awake.", () -> {
            TwinRegister x = Bounds.ready();
            Bounds.due("at first", x.sleep(7), true);
            Bounds.due("asleep", x.sleep(7), false);
            Kit.wishOne(x, 7, 0, 0);
            Bounds.due("asleep still", x.sleep(7), false);
            Bounds.due("all that it missed since", x.wake(7), 1);
            Bounds.due("awake", x.sleep(7), true);
            Bounds.due("missed nothing", x.wake(7), 0);
            x.wake(7);
            Bounds.due("woken twice", x.sleep(7), true);
            Bounds.due("another one", x.sleep(0), true);
        });
        promise.test(NO_SUCH_DEVICE, () -> {
            noOtherDevice((x, device) -> x.sleep(device) ? 1 : 0);
            Bounds.refusedEach("all asleep", Bounds::readyAsleep, new int[] {-1, 8},
                    (x, device) -> x.sleep(device) ? 1 : 0,
                    Bounds.INDEX);
        });
        promise.end("A device goes to sleep.");
    }

    // ---- promise 9

    private static void wake() {
        Bounds promise = new Bounds("Promise 9");
        promise.test(THE_DEVICE, () -> devicesOnly(Bounds::readyAsleep, (x, device) -> x.wake(device)));
        promise.test("Returns how many versions it had not heard.", () -> {
            TwinRegister x = Bounds.withJob(8, 8);
            Bounds.due("awake", x.wake(7), 0);
            Kit.wishOne(x, 7, 0, 0);
            Bounds.due("awake, all heard", x.wake(7), 0);
            for (int missed = 0; missed < 5; missed++) {
                x.sleep(7);
                for (int wishes = 0; wishes < missed; wishes++) {
                    Kit.wishOne(x, 7, 0, 0);
                }
                Bounds.due("missed " + missed, x.wake(7), missed);
                Bounds.due("told once", x.wake(7), 0);
            }
            x.sleep(7);
            x.wave();
            x.sleep(7);
            Kit.wishOne(x, 7, 0, 0);
            Bounds.due("a job's too, and what came ahead of a second sleep", x.wake(7), 2);
            Bounds.due("all heard", x.heard(7), x.version(7));
            Bounds.due("it is awake", x.obey(7), 2);
        });
        promise.test(NO_SUCH_DEVICE, () -> {
            noOtherDevice((x, device) -> x.wake(device));
            Bounds.refusedEach("all asleep", Bounds::readyAsleep, new int[] {-1, 8},
                    (x, device) -> x.wake(device), Bounds.INDEX);
        });
        promise.end("A device wakes.");
    }

    // ---- promise 10

    private static void setGroup() {
        Bounds promise = new Bounds("Promise 10");
        promise.test("- `group`: the group", () -> Bounds.takenEach("group", Kit::withReports, 0, 3,
                (x, group) -> x.setGroup(group, 0, 0, 99)));
        promise.test("- `leaf`: its leaf", () -> Bounds.takenEach("leaf", Kit::withReports, 0, 11,
                (x, leaf) -> x.setGroup(3, leaf, 0, 99)));
        promise.test("- `low`: 0 to 99", () -> Bounds.takenEach("low", Kit::withReports, 0, 99,
                (x, low) -> x.setGroup(3, 0, low, 99)));
        promise.test("- `high`: low to 99", () -> {
            Bounds.takenEach("low 0, high", Kit::withReports, 0, 99, (x, high) -> x.setGroup(3, 0, 0, high));
            Bounds.takenEach("low 50, high", Kit::withReports, 50, 99, (x, high) -> x.setGroup(3, 0, 50, high));
            Bounds.taken("low 99, high 99", Kit.withReports(), x -> x.setGroup(3, 0, 99, 99));
            for (int low = 1; low < 100; low++) {
                int each = low;
                Bounds.thrown("high below " + low, Kit.withReports(), x -> x.setGroup(3, 0, each, each - 1), Bounds.ARGUMENT);
            }
        });
        promise.test("Returns how many members it has then.", () -> {
            TwinRegister x = Kit.withReports();
            for (int high = 0; high < 12; high++) {
                Bounds.due("0 to " + high, x.setGroup(3, 0, 0, high), Math.min(high + 1, 8));
            }
            for (int low = 0; low < 12; low++) {
                Bounds.due(low + " to 99", x.setGroup(3, 0, low, 99), Math.max(8 - low, 0));
            }
            Bounds.due("a leaf that none reported", x.setGroup(3, 11, 0, 99), 0);
            Bounds.due("none is no member of 0", x.setGroup(3, 11, 0, 0), 0);
            Bounds.due("empty in a new object", new TwinRegister().setGroup(0, 0, 0, 99), 0);
        });
        promise.test("Throws `IndexOutOfBoundsException` if there is no such group or leaf", () -> {
            Bounds.refusedEach("group", Bounds::ready, Bounds.outside(0, 3),
                    (x, group) -> x.setGroup(group, 1, 0, 99), Bounds.INDEX);
            Bounds.refusedEach("leaf", Bounds::ready, Bounds.outside(0, 11),
                    (x, leaf) -> x.setGroup(3, leaf, 0, 99), Bounds.INDEX);
            Bounds.refusedEach("group, wrong values", Bounds::ready, new int[] {-1, 4},
                    (x, group) -> x.setGroup(group, 1, 9, 8),
                    Bounds.INDEX);
            Bounds.refusedEach("leaf, wrong values", Bounds::ready, new int[] {-1, 12},
                    (x, leaf) -> x.setGroup(3, leaf, -1, 100),
                    Bounds.INDEX);
        });
        promise.test("Throws `IllegalArgumentException` if low or high is out of range", () -> {
            Bounds.refusedEach("low", Bounds::ready, Bounds.outside(0, 99),
                    (x, low) -> x.setGroup(3, 1, low, 99), Bounds.ARGUMENT);
            Bounds.refusedEach("high", Bounds::ready, Bounds.outside(0, 99),
                    (x, high) -> x.setGroup(3, 1, 0, high), Bounds.ARGUMENT);
            Bounds.refusedEach("both", Bounds::ready, Bounds.outside(0, 99),
                    (x, value) -> x.setGroup(3, 1, value, value),
                    Bounds.ARGUMENT);
            Bounds.refusedEach("high below low 60,", Bounds::ready, new int[] {0, 1, 58, 59},
                    (x, high) -> x.setGroup(3, 1, 60, high),
                    Bounds.ARGUMENT);
            Bounds.refused("low above all, high below", Bounds::ready, x -> x.setGroup(3, 1, Bounds.MOST, Bounds.LEAST),
                    Bounds.ARGUMENT);
        });
        promise.end("Sets a group.");
    }

    // ---- promise 11

    private static void addJob() {
        Bounds promise = new Bounds("Promise 11");
        promise.test("- `group`: its group", () -> {
            for (int group = 0; group < Kit.GROUPS; group++) {
                TwinRegister x = Kit.withReports();
                x.setGroup(group, 0, 7, 7);
                x.addJob(group, 5, 30, 8, 8);
                Bounds.due("group " + group, x.wave(), 1);
            }
        });
        promise.test(THE_LEAF, () -> {
            for (int leaf = 0; leaf < Kit.LEAVES; leaf++) {
                TwinRegister x = Kit.withReports();
                x.addJob(0, leaf, 30, 8, 8);
                x.wave();
                Bounds.due("leaf " + leaf, x.differences(7), 1 << leaf);
            }
        });
        promise.test("- `value`: 0 to 99", () -> {
            for (int value = 0; value < 100; value++) {
                TwinRegister x = Kit.withReports();
                x.addJob(0, 5, value, 8, 8);
                x.wave();
                Bounds.due("value " + value, x.wished(7, 5), value);
            }
        });
        promise.test("- `rate`: 1 to 8", () -> {
            for (int rate = 1; rate <= 8; rate++) {
                Bounds.due("rate " + rate, Bounds.withJob(rate, 8).wave(), rate);
            }
        });
        promise.test("- `bound`: 1 to 8", () -> {
            for (int bound = 1; bound <= 8; bound++) {
                TwinRegister x = Bounds.withJob(8, bound);
                x.wave();
                for (int device = 0; device < bound; device++) {
                    Bounds.due("bound " + bound + ", failed " + device, x.state(0), 0);
                    x.refuse(device, 5, 1);
                    x.wave();
                }
                Bounds.due("bound " + bound, x.state(0), 1);
            }
        });
        promise.test("Returns its number.", () -> {
            TwinRegister x = new TwinRegister();
            for (int job = 0; job < 8; job++) {
                Bounds.due("the next", x.addJob(3, 11, 99, 8, 8), job);
                Bounds.thrown("a refused one takes no number", x, r -> r.addJob(0, 0, 0, 0, 1), Bounds.ARGUMENT);
            }
        });
        promise.test("Throws `IndexOutOfBoundsException` if there is no such group or leaf", () -> {
            Bounds.refusedEach("group", Bounds::ready, Bounds.outside(0, 3),
                    (x, group) -> x.addJob(group, 1, 5, 2, 2), Bounds.INDEX);
            Bounds.refusedEach("leaf", Bounds::ready, Bounds.outside(0, 11),
                    (x, leaf) -> x.addJob(1, leaf, 5, 2, 2), Bounds.INDEX);
            Bounds.refusedEach("group, all wrong", Kit::busy, new int[] {-1, 4},
                    (x, group) -> x.addJob(group, 12, 100, 9, 9),
                    Bounds.INDEX);
            Bounds.refusedEach("leaf, all wrong", Kit::busy, new int[] {-1, 12},
                    (x, leaf) -> x.addJob(1, leaf, -1, 0, 0),
                    Bounds.INDEX);
        });
        promise.test("Throws `IllegalArgumentException` if value, rate or bound is out of range",
                CallsBoundariesTest::wrongJobs);
        promise.test("Throws `IllegalStateException` if there are 8", () -> {
            TwinRegister x = Bounds.ready();
            for (int job = 1; job < 8; job++) {
                Bounds.taken("job " + job, x, r -> r.addJob(1, 1, 5, 2, 2));
            }
            Bounds.thrown("a ninth", x, r -> r.addJob(1, 1, 5, 2, 2), Bounds.STATE);
            Bounds.refused("a ninth, with others stopped and cancelled", Kit::busy, r -> r.addJob(1, 1, 5, 2, 2), Bounds.STATE);
            Bounds.due("eight", x.jobs(), 8);
        });
        promise.end("Adds a job.");
    }

    private static void wrongJobs() {
        Bounds.refusedEach("value", Bounds::ready, Bounds.outside(0, 99),
                (x, value) -> x.addJob(1, 1, value, 2, 2), Bounds.ARGUMENT);
        Bounds.refusedEach("rate", Bounds::ready, Bounds.outside(1, 8),
                (x, rate) -> x.addJob(1, 1, 5, rate, 2), Bounds.ARGUMENT);
        Bounds.refusedEach("bound", Bounds::ready, Bounds.outside(1, 8),
                (x, bound) -> x.addJob(1, 1, 5, 2, bound), Bounds.ARGUMENT);
        Bounds.refused("value, with eight", Kit::busy, x -> x.addJob(1, 1, -1, 2, 2), Bounds.ARGUMENT);
        Bounds.refused("rate, with eight", Kit::busy, x -> x.addJob(1, 1, 5, 9, 2), Bounds.ARGUMENT);
        Bounds.refused("bound, with eight", Kit::busy, x -> x.addJob(1, 1, 5, 2, 0), Bounds.ARGUMENT);
    }

    // ---- promise 12

    private static void wave() {
        Bounds promise = new Bounds("Promise 12");
        promise.test("Does a wave.", () -> {
            Bounds.due("no job", new TwinRegister().wave(), 0);
            TwinRegister x = Bounds.withJob(8, 8);
            Bounds.due("a job", x.wave(), 8);
            for (int wave = 0; wave < 20; wave++) {
                Bounds.due("nothing left to do", x.wave(), 0);
            }
            Bounds.due("running still", x.state(0), 0);
            Bounds.due("one wish each", x.version(7), 1);
        });
        promise.test("Returns how many devices are started, over all jobs.", () -> {
            TwinRegister x = Kit.withReports();
            for (int job = 0; job < 8; job++) {
                x.addJob(0, 3 + job, 50, 1 + job, 8);
            }
            Bounds.due("1 to 8", x.wave(), 36);
            Bounds.due("what is left", x.wave(), 16);
            Bounds.due("what is left then", x.wave(), 5);
            Bounds.due("two jobs are left", x.wave(), 3);
            Bounds.due("one job is left", x.wave(), 1);
            TwinRegister y = Kit.withReports();
            for (int job = 0; job < 8; job++) {
                y.addJob(0, 5, 50 + job, 8, 8);
            }
            Bounds.due("at the most", y.wave(), 64);
            Bounds.due("a wish by each job", y.version(7), 8);
            Bounds.due("the last one's stands", y.wished(7, 5), 57);
            TwinRegister z = Kit.withReports();
            z.addJob(0, 5, 50, 8, 8);
            z.addJob(0, 6, 50, 2, 8);
            z.cancel(0);
            Bounds.due("not those of a cancelled one", z.wave(), 2);
            TwinRegister stopping = Bounds.withJob(2, 1);
            stopping.wave();
            stopping.refuse(0, 5, 1);
            Bounds.due("none in the wave that stops it", stopping.wave(), 0);
            Bounds.due("none of a stopped one", stopping.wave(), 0);
            TwinRegister empty = new TwinRegister();
            empty.addJob(0, 5, 50, 8, 8);
            Bounds.due("an empty group", empty.wave(), 0);
        });
        promise.end();
    }

    // ---- promise 13

    private static void cancel() {
        Bounds promise = new Bounds("Promise 13");
        promise.test("- `job`: the job", () -> {
            for (int job = 0; job < 8; job++) {
                TwinRegister x = Kit.withReports();
                for (int each = 0; each < 8; each++) {
                    x.addJob(0, 5, 30, 1 + each, 8);
                }
                x.wave();
                Bounds.due("job " + job, x.cancel(job), 1 + job);
                for (int other = 0; other < 8; other++) {
                    Bounds.due("state of " + other, x.state(other), other == job ? 2 : 0);
                }
            }
        });
        promise.test("Returns how many started devices are neither done nor failed, as it was told in the latest wave.",
                CallsBoundariesTest::countsOfCancel);
        promise.test("Throws `IndexOutOfBoundsException` if there is no such job", () -> {
            Bounds.refusedEach("no job", TwinRegister::new, new int[] {-1, 0, 1, 7, 8},
                    (x, job) -> x.cancel(job), Bounds.INDEX);
            Bounds.refusedEach("one job", Bounds::ready, Bounds.outside(0, 0), (x, job) -> x.cancel(job), Bounds.INDEX);
            Bounds.refusedEach("eight jobs", Kit::busy, Bounds.outside(0, 7), (x, job) -> x.cancel(job), Bounds.INDEX);
        });
        promise.test("Throws `IllegalStateException` if it is not running", () -> {
            Bounds.refused("stopped", Kit::busy, x -> x.cancel(0), Bounds.STATE);
            Bounds.refused("cancelled", Kit::busy, x -> x.cancel(5), Bounds.STATE);
            Bounds.refused("cancelled ahead of all waves", () -> {
                TwinRegister x = Bounds.ready();
                x.cancel(0);
                return x;
            }, x -> x.cancel(0), Bounds.STATE);
            TwinRegister x = Bounds.withJob(8, 1);
            x.wave();
            x.refuse(0, 5, 1);
            Bounds.due("at the bound, but no wave told it", x.cancel(0), 8);
        });
        promise.end("Cancels a job.");
    }

    private static void countsOfCancel() {
        Bounds.due("ahead of all waves", Bounds.withJob(8, 8).cancel(0), 0);
        for (int rate = 1; rate <= 8; rate++) {
            TwinRegister x = Bounds.withJob(rate, 8);
            x.wave();
            Bounds.due("started in the latest wave", x.cancel(0), rate);
        }
        TwinRegister x = Bounds.withJob(8, 8);
        x.wave();
        x.obey(0);
        x.refuse(1, 5, 1);
        Bounds.due("done and failed behind the latest wave", x.cancel(0), 8);
        x.wave();
        Bounds.due("a cancelled one is told no more: done", x.devices(0, 1), 0);
        Bounds.due("a cancelled one is told no more: failed", x.devices(0, 2), 0);
        TwinRegister y = Bounds.withJob(8, 8);
        y.wave();
        for (int device = 0; device < 4; device++) {
            y.obey(device);
        }
        for (int device = 4; device < 7; device++) {
            y.refuse(device, 5, 1);
        }
        y.wave();
        Bounds.due("one is left", y.cancel(0), 1);
        TwinRegister z = Bounds.withJob(8, 8);
        z.wave();
        for (int device = 0; device < Kit.DEVICES; device++) {
            z.obey(device);
        }
        z.wave();
        Kit.reportOne(z, 0, 3, 5, -1);
        Bounds.due("all are done", z.cancel(0), 0);
    }
}
