import java.util.List;

/** Each promise on its own: ordinary inputs, the edges that the document names, wrong inputs. */
public final class PromisesTest {
    private static final String INDEX = "IndexOutOfBoundsException";
    private static final String ARGUMENT = "IllegalArgumentException";
    private static final String STATE = "IllegalStateException";
    private static final int LEAST = Integer.MIN_VALUE;
    private static final int MOST = Integer.MAX_VALUE;

    private PromisesTest() {
    }

    public static void main(String[] args) {
        promise1();
        promise2();
        promise3();
        promise4();
        promise4Refusals();
        promise5();
        promise5Doubled();
        promise6();
        promise7();
        promise8();
        promise9();
        promise10();
        promise11();
        promise12Starts();
        promise12Judges();
        promise12Stops();
        promise12Order();
        promise13();
        promise14And15();
        promise16To18();
        promise19And20();
        promise21();
        promise22And23();
        promise24();
        thrownChangesNothing();
        objectsAreApart();
        Kit.end("PromisesTest");
    }

    private static void due(String what, int got, int want) {
        Kit.due(what, got, want);
    }

    private static void dueThrow(String what, TwinRegister x, Kit.CallOf call, String want) {
        Kit.due(what, Kit.told(() -> call.on(x)), want);
    }

    private static void promise1() {
        TwinRegister x = new TwinRegister();
        for (int device = 0; device < Kit.DEVICES; device++) {
            due("1: version", x.version(device), 0);
            due("1: heard", x.heard(device), 0);
            due("1: differences", x.differences(device), 0);
            due("1: differencesAnew", x.differencesAnew(device), 0);
            for (int leaf = 0; leaf < Kit.LEAVES; leaf++) {
                due("1: wished", x.wished(device, leaf), -1);
                due("1: reported", x.reported(device, leaf), -1);
                due("1: why", x.why(device, leaf), 0);
            }
        }
        for (int group = 0; group < Kit.GROUPS; group++) {
            due("1: members", x.members(group), 0);
        }
        due("1: jobs", x.jobs(), 0);
        due("1: wave without jobs", x.wave(), 0);

        TwinRegister y = new TwinRegister();
        dueThrow("1: no draft", y, r -> r.wish(0, -1), STATE);
        Kit.reportOne(y, 3, 1, 0, 0);
        Kit.reportOne(y, 5, 1, 0, 99);
        Kit.reportOne(y, 6, 1, 1, 50);
        for (int group = 0; group < Kit.GROUPS; group++) {
            due("1: groups of leaf 0, values 0 to 99", y.members(group), Kit.bits(3, 5));
        }
        for (int device = 0; device < Kit.DEVICES; device++) {
            Kit.due("1: awake", y.sleep(device), true);
        }
    }

    private static void promise2() {
        TwinRegister x = new TwinRegister();
        due("2: first leaf", x.put(0, 0), 1);
        due("2: last leaf", x.put(11, 99), 2);
        due("2: a removal counts", x.put(5, -1), 3);
        due("2: again", x.put(5, 42), 3);
        due("2: again a removal", x.put(0, -1), 3);
        for (int leaf = 0; leaf < Kit.LEAVES; leaf++) {
            x.put(leaf, leaf + 10);
        }
        due("2: all leaves", x.put(11, 99), 12);
        x.wish(2, -1);
        for (int leaf = 0; leaf < 11; leaf++) {
            due("2: put and wished", x.wished(2, leaf), leaf + 10);
        }
        due("2: the later value", x.wished(2, 11), 99);
        due("2: empty behind the wish", x.put(4, 4), 1);
        dueThrow("2: leaf -1", x, r -> r.put(-1, 0), INDEX);
        dueThrow("2: leaf 12", x, r -> r.put(12, 0), INDEX);
        dueThrow("2: least leaf", x, r -> r.put(LEAST, 0), INDEX);
        dueThrow("2: greatest leaf", x, r -> r.put(MOST, 0), INDEX);
        dueThrow("2: value -2", x, r -> r.put(0, -2), ARGUMENT);
        dueThrow("2: value 100", x, r -> r.put(0, 100), ARGUMENT);
        dueThrow("2: least value", x, r -> r.put(0, LEAST), ARGUMENT);
        dueThrow("2: greatest value", x, r -> r.put(0, MOST), ARGUMENT);
        dueThrow("2: leaf first", x, r -> r.put(12, 100), INDEX);
        due("2: nothing changed", x.put(4, 4), 1);
    }

    private static void promise3() {
        TwinRegister x = new TwinRegister();
        for (int leaf = 0; leaf < Kit.LEAVES; leaf++) {
            x.put(leaf, 20 + leaf);
        }
        x.wish(1, -1);
        due("3: section 1", x.drop(1), 4);
        due("3: again", x.drop(1), 4);
        due("3: a value over a removal", x.put(6, 3), 4);
        due("3: a leaf besides", x.put(0, 9), 5);
        x.wish(1, -1);
        int[] want = {9, 21, 22, 23, -1, -1, 3, -1, 28, 29, 30, 31};
        for (int leaf = 0; leaf < Kit.LEAVES; leaf++) {
            due("3: section 1 dropped, leaf " + leaf, x.wished(1, leaf), want[leaf]);
        }
        x.put(2, 7);
        due("3: a removal over a value", x.drop(0), 4);
        due("3: section 2", x.drop(2), 8);
        due("3: section 1 too", x.drop(1), 12);
        x.wish(1, -1);
        for (int leaf = 0; leaf < Kit.LEAVES; leaf++) {
            due("3: all dropped", x.wished(1, leaf), -1);
        }
        dueThrow("3: section -1", x, r -> r.drop(-1), INDEX);
        dueThrow("3: section 3", x, r -> r.drop(3), INDEX);
        dueThrow("3: least section", x, r -> r.drop(LEAST), INDEX);
        dueThrow("3: greatest section", x, r -> r.drop(MOST), INDEX);
        due("3: nothing changed", x.put(0, 0), 1);
    }

    private static void promise4() {
        TwinRegister x = new TwinRegister();
        x.put(0, 5);
        x.put(3, 6);
        due("4: version 1", x.wish(4, 0), 1);
        x.put(0, 7);
        dueThrow("4: another version below", x, r -> r.wish(4, 0), STATE);
        dueThrow("4: another version above", x, r -> r.wish(4, 2), STATE);
        dueThrow("4: -2 is no version", x, r -> r.wish(4, -2), STATE);
        dueThrow("4: least", x, r -> r.wish(4, LEAST), STATE);
        dueThrow("4: greatest", x, r -> r.wish(4, MOST), STATE);
        due("4: nothing changed", x.version(4), 1);
        due("4: nothing wished", x.wished(4, 0), 5);
        due("4: the draft stayed", x.wish(4, 1), 2);
        due("4: merged", x.wished(4, 0), 7);
        due("4: the other leaf stays", x.wished(4, 3), 6);
        due("4: no other device", x.wished(3, 0), -1);
        due("4: no other version", x.version(3), 0);
        dueThrow("4: the draft is empty", x, r -> r.wish(4, -1), STATE);
        dueThrow("4: empty, with a version", x, r -> r.wish(4, 2), STATE);
        x.put(0, -1);
        due("4: a removal alone is a wish", x.wish(4, -1), 3);
        due("4: removed", x.wished(4, 0), -1);
        x.put(3, 6);
        due("4: the same again is a wish", x.wish(4, 3), 4);
        x.put(9, 1);
        dueThrow("4: device -1", x, r -> r.wish(-1, -1), INDEX);
        dueThrow("4: device 8", x, r -> r.wish(8, -1), INDEX);
        dueThrow("4: greatest device", x, r -> r.wish(MOST, -1), INDEX);
        due("4: the first device", x.wish(0, -1), 1);
        x.put(9, 2);
        due("4: the last device", x.wish(7, 0), 1);
        dueThrow("4: device ahead of the draft", x, r -> r.wish(8, 5), INDEX);
        x.sleep(7);
        x.put(9, 3);
        due("4: of one asleep", x.wish(7, 1), 2);
        due("4: of one asleep, wished", x.wished(7, 9), 3);
    }

    private static void promise4Refusals() {
        TwinRegister x = new TwinRegister();
        x.put(1, 11);
        x.put(2, 12);
        x.put(3, 13);
        x.wish(0, -1);
        x.refuse(0, 1, 4);
        x.refuse(0, 2, 5);
        x.refuse(0, 3, 6);
        x.put(1, 11);
        x.put(2, -1);
        x.wish(0, -1);
        due("4: taken back by the same value", x.why(0, 1), 0);
        due("4: taken back by a removal", x.why(0, 2), 0);
        due("4: stays beside the draft", x.why(0, 3), 6);
        due("4: differs again", x.differences(0), Kit.bits(1));
    }

    private static void promise5() {
        TwinRegister x = new TwinRegister();
        due("5: an empty report", x.report(2, 1), 0);
        x.put(0, 1);
        x.put(1, 2);
        x.put(2, 3);
        x.wish(2, -1);
        x.put(0, 1);
        x.put(1, 9);
        x.put(7, 5);
        due("5: two differ", x.report(2, 2), 2);
        due("5: reported", x.reported(2, 0), 1);
        due("5: reported another", x.reported(2, 1), 9);
        due("5: reported unwished", x.reported(2, 7), 5);
        due("5: not reported", x.reported(2, 2), -1);
        due("5: wished stays", x.wished(2, 1), 2);
        due("5: no version", x.version(2), 1);
        due("5: no other device", x.reported(1, 0), -1);
        dueThrow("5: the draft is empty", x, r -> r.wish(2, -1), STATE);
        due("5: a removal", Kit.reportOne(x, 2, 3, 0, -1), 3);
        due("5: removed", x.reported(2, 0), -1);
        due("5: an empty report tells too", x.report(2, 4), 3);
        dueThrow("5: number 0", x, r -> r.report(2, 0), ARGUMENT);
        dueThrow("5: number -1", x, r -> r.report(2, -1), ARGUMENT);
        dueThrow("5: least number", x, r -> r.report(2, LEAST), ARGUMENT);
        dueThrow("5: too far", x, r -> r.report(2, 6), ARGUMENT);
        dueThrow("5: greatest number", x, r -> r.report(2, MOST), ARGUMENT);
        dueThrow("5: numbers are the device's own", x, r -> r.report(3, 2), ARGUMENT);
        dueThrow("5: device -1", x, r -> r.report(-1, 1), INDEX);
        dueThrow("5: device 8", x, r -> r.report(8, 1), INDEX);
        dueThrow("5: device first", x, r -> r.report(8, 0), INDEX);
        x.sleep(2);
        dueThrow("5: asleep", x, r -> r.report(2, 5), STATE);
        dueThrow("5: asleep, doubled", x, r -> r.report(2, 1), STATE);
        dueThrow("5: number ahead of sleep", x, r -> r.report(2, 6), ARGUMENT);
        x.wake(2);
        due("5: no number was taken", x.report(2, 5), 3);
        x.refuse(2, 1, 8);
        due("5: a report does not take refusals back", Kit.reportOne(x, 2, 6, 1, 2), 2);
        due("5: refused still", x.why(2, 1), 8);
        due("5: first device", Kit.reportOne(x, 0, 1, 0, 0), 0);
        due("5: last device", Kit.reportOne(x, 7, 1, 11, 99), 0);
        due("5: last leaf", x.reported(7, 11), 99);
    }

    private static void promise5Doubled() {
        TwinRegister x = new TwinRegister();
        Kit.wishOne(x, 0, 0, 4);
        Kit.reportOne(x, 0, 1, 0, 3);
        Kit.reportOne(x, 0, 2, 0, 2);
        x.put(0, 4);
        x.put(1, 4);
        due("5: doubled", x.report(0, 2), -1);
        dueThrow("5: empty behind a doubled one", x, r -> r.wish(0, -1), STATE);
        due("5: a doubled one changes nothing", x.reported(0, 0), 2);
        due("5: nor another leaf", x.reported(0, 1), -1);
        due("5: an earlier one", Kit.reportOne(x, 0, 1, 0, 4), -1);
        due("5: changes nothing", x.reported(0, 0), 2);
        due("5: doubled and empty", x.report(0, 2), -1);
        due("5: the latest number stayed", Kit.reportOne(x, 0, 3, 0, 4), 0);
        due("5: taken", x.reported(0, 0), 4);
    }

    private static void promise6() {
        TwinRegister x = new TwinRegister();
        due("6: nothing to do", x.obey(3), 0);
        due("6: was the first report", x.report(3, 1), -1);
        x.put(0, 1);
        x.put(5, 2);
        x.put(11, 3);
        x.put(8, 4);
        x.wish(3, -1);
        Kit.reportOne(x, 3, 2, 8, 4);
        x.refuse(3, 5, 1);
        x.put(9, 9);
        due("6: those that differ", x.obey(3), 2);
        due("6: the draft stays", x.put(9, 9), 1);
        due("6: leaf 0", x.reported(3, 0), 1);
        due("6: leaf 11", x.reported(3, 11), 3);
        due("6: not the refused one", x.reported(3, 5), -1);
        due("6: refused still", x.why(3, 5), 1);
        due("6: not the draft", x.reported(3, 9), -1);
        due("6: no more differ", x.differences(3), 0);
        due("6: afresh", x.differencesAnew(3), 0);
        due("6: no version", x.version(3), 1);
        due("6: again", x.obey(3), 0);
        dueThrow("6: numbers went on", x, r -> r.report(3, 6), ARGUMENT);
        due("6: number 4 is taken", x.report(3, 4), -1);
        due("6: number 5 is next", x.report(3, 5), 0);
        dueThrow("6: device -1", x, r -> r.obey(-1), INDEX);
        dueThrow("6: device 8", x, r -> r.obey(8), INDEX);
        x.sleep(3);
        Kit.wishOne(x, 3, 0, 50);
        dueThrow("6: asleep", x, r -> r.obey(3), STATE);
        due("6: nothing reported", x.reported(3, 0), 1);
        x.wake(3);
        due("6: awake again", x.obey(3), 1);
        due("6: no number between", x.report(3, 7), 0);
        Kit.wishOne(x, 3, 0, -1);
        due("6: nothing wished is nothing to do", x.obey(3), 0);
        due("6: reported stays", x.reported(3, 0), 50);
    }

    private static void promise7() {
        TwinRegister x = new TwinRegister();
        x.put(0, 1);
        x.put(1, 2);
        x.put(11, 3);
        x.wish(6, -1);
        due("7: two are left", x.refuse(6, 0, 1), 2);
        due("7: one is left", x.refuse(6, 11, 9), 1);
        due("7: why 1", x.why(6, 0), 1);
        due("7: why 9", x.why(6, 11), 9);
        due("7: differences", x.differences(6), Kit.bits(1));
        due("7: no version", x.version(6), 1);
        due("7: wished stays", x.wished(6, 0), 1);
        dueThrow("7: refused already", x, r -> r.refuse(6, 0, 2), STATE);
        due("7: the first reason stays", x.why(6, 0), 1);
        dueThrow("7: not wished", x, r -> r.refuse(6, 2, 2), STATE);
        dueThrow("7: reason 0", x, r -> r.refuse(6, 1, 0), ARGUMENT);
        dueThrow("7: reason 10", x, r -> r.refuse(6, 1, 10), ARGUMENT);
        dueThrow("7: least reason", x, r -> r.refuse(6, 1, LEAST), ARGUMENT);
        dueThrow("7: greatest reason", x, r -> r.refuse(6, 1, MOST), ARGUMENT);
        dueThrow("7: device -1", x, r -> r.refuse(-1, 1, 1), INDEX);
        dueThrow("7: device 8", x, r -> r.refuse(8, 1, 1), INDEX);
        dueThrow("7: leaf -1", x, r -> r.refuse(6, -1, 1), INDEX);
        dueThrow("7: leaf 12", x, r -> r.refuse(6, 12, 1), INDEX);
        dueThrow("7: leaf first", x, r -> r.refuse(6, 12, 0), INDEX);
        dueThrow("7: reason ahead of the state", x, r -> r.refuse(6, 2, 0), ARGUMENT);
        Kit.reportOne(x, 6, 1, 1, 2);
        dueThrow("7: reported as wished", x, r -> r.refuse(6, 1, 1), STATE);
        Kit.reportOne(x, 6, 2, 1, 7);
        due("7: differs from what is reported", x.refuse(6, 1, 5), 0);
        x.sleep(6);
        Kit.wishOne(x, 6, 1, 2);
        dueThrow("7: asleep", x, r -> r.refuse(6, 1, 1), STATE);
        dueThrow("7: reason ahead of sleep", x, r -> r.refuse(6, 1, 0), ARGUMENT);
        dueThrow("7: leaf ahead of sleep", x, r -> r.refuse(6, 12, 1), INDEX);
        due("7: not refused", x.why(6, 1), 0);
        Kit.reportOne(x, 6 - 1, 1, 0, 1);
        due("7: no other device", x.why(5, 0), 0);
    }

    private static void promise8() {
        TwinRegister x = new TwinRegister();
        Kit.wishOne(x, 0, 0, 1);
        Kit.due("8: was awake", x.sleep(0), true);
        Kit.wishOne(x, 0, 0, 2);
        Kit.due("8: was asleep", x.sleep(0), false);
        due("8: heard when it fell asleep", x.heard(0), 1);
        due("8: the version goes on", x.version(0), 2);
        Kit.due("8: another", x.sleep(7), true);
        dueThrow("8: device -1", x, r -> r.sleep(-1) ? 1 : 0, INDEX);
        dueThrow("8: device 8", x, r -> r.sleep(8) ? 1 : 0, INDEX);
        x.wake(0);
        Kit.due("8: was awake again", x.sleep(0), true);
        due("8: heard anew", x.heard(0), 2);
    }

    private static void promise9() {
        TwinRegister x = new TwinRegister();
        due("9: awake", x.wake(3), 0);
        x.sleep(3);
        due("9: nothing new", x.wake(3), 0);
        Kit.wishOne(x, 3, 0, 1);
        due("9: awake, with a version", x.wake(3), 0);
        x.sleep(3);
        for (int value = 10; value < 13; value++) {
            Kit.wishOne(x, 3, 0, value);
        }
        Kit.reportOne(x, 2, 1, 0, 1);
        x.addJob(0, 4, 9, 8, 8);
        due("9: heard still", x.heard(3), 1);
        due("9: three versions", x.wake(3), 3);
        due("9: heard all", x.heard(3), 4);
        due("9: no more", x.wake(3), 0);
        due("9: the version stays", x.version(3), 4);
        due("9: awake, it obeys", x.obey(3), 1);
        Kit.reportOne(x, 3, 2, 0, 1);
        x.sleep(3);
        x.wave();
        due("9: a job's wish is a version", x.wake(3), 1);
        dueThrow("9: device -1", x, r -> r.wake(-1), INDEX);
        dueThrow("9: device 8", x, r -> r.wake(8), INDEX);
    }

    private static void promise10() {
        TwinRegister x = Kit.withReports();
        due("10: 2 to 5", x.setGroup(1, 0, 2, 5), 4);
        due("10: its members", x.members(1), Kit.bits(2, 3, 4, 5));
        due("10: other groups stay", x.members(0), 255);
        due("10: one value", x.setGroup(1, 0, 7, 7), 1);
        due("10: least value", x.setGroup(1, 0, 0, 0), 1);
        due("10: greatest value", x.setGroup(1, 0, 99, 99), 0);
        due("10: another leaf", x.setGroup(3, 11, 0, 99), 0);
        Kit.reportOne(x, 4, 2, 11, 99);
        due("10: it fills", x.members(3), Kit.bits(4));
        due("10: back to leaf 0", x.setGroup(3, 0, 0, 99), 8);
        dueThrow("10: group -1", x, r -> r.setGroup(-1, 0, 0, 99), INDEX);
        dueThrow("10: group 4", x, r -> r.setGroup(4, 0, 0, 99), INDEX);
        dueThrow("10: leaf -1", x, r -> r.setGroup(0, -1, 0, 99), INDEX);
        dueThrow("10: leaf 12", x, r -> r.setGroup(0, 12, 0, 99), INDEX);
        dueThrow("10: low -1", x, r -> r.setGroup(0, 0, -1, 99), ARGUMENT);
        dueThrow("10: low 100", x, r -> r.setGroup(0, 0, 100, 100), ARGUMENT);
        dueThrow("10: high below low", x, r -> r.setGroup(0, 0, 5, 4), ARGUMENT);
        dueThrow("10: high 100", x, r -> r.setGroup(0, 0, 0, 100), ARGUMENT);
        dueThrow("10: far out", x, r -> r.setGroup(0, 0, LEAST, MOST), ARGUMENT);
        dueThrow("10: group first", x, r -> r.setGroup(4, 0, 5, 4), INDEX);
        dueThrow("10: leaf first", x, r -> r.setGroup(0, 12, 5, 4), INDEX);
        due("10: nothing changed", x.members(0), 255);
    }

    private static void promise11() {
        TwinRegister x = new TwinRegister();
        dueThrow("11: group -1", x, r -> r.addJob(-1, 0, 0, 1, 1), INDEX);
        dueThrow("11: group 4", x, r -> r.addJob(4, 0, 0, 1, 1), INDEX);
        dueThrow("11: leaf -1", x, r -> r.addJob(0, -1, 0, 1, 1), INDEX);
        dueThrow("11: leaf 12", x, r -> r.addJob(0, 12, 0, 1, 1), INDEX);
        dueThrow("11: value -1", x, r -> r.addJob(0, 0, -1, 1, 1), ARGUMENT);
        dueThrow("11: value 100", x, r -> r.addJob(0, 0, 100, 1, 1), ARGUMENT);
        dueThrow("11: rate 0", x, r -> r.addJob(0, 0, 0, 0, 1), ARGUMENT);
        dueThrow("11: rate 9", x, r -> r.addJob(0, 0, 0, 9, 1), ARGUMENT);
        dueThrow("11: bound 0", x, r -> r.addJob(0, 0, 0, 1, 0), ARGUMENT);
        dueThrow("11: bound 9", x, r -> r.addJob(0, 0, 0, 1, 9), ARGUMENT);
        dueThrow("11: group first", x, r -> r.addJob(4, 0, -1, 0, 0), INDEX);
        due("11: none was added", x.jobs(), 0);
        due("11: the first", x.addJob(0, 0, 0, 1, 1), 0);
        due("11: the edges", x.addJob(3, 11, 99, 8, 8), 1);
        for (int job = 2; job < 8; job++) {
            due("11: by rising numbers", x.addJob(0, 0, 0, 1, 1), job);
        }
        due("11: eight", x.jobs(), 8);
        dueThrow("11: a ninth", x, r -> r.addJob(0, 0, 0, 1, 1), STATE);
        dueThrow("11: group ahead of a ninth", x, r -> r.addJob(4, 0, 0, 1, 1), INDEX);
        dueThrow("11: leaf ahead of a ninth", x, r -> r.addJob(0, 12, 0, 1, 1), INDEX);
        dueThrow("11: value ahead of a ninth", x, r -> r.addJob(0, 0, 100, 1, 1), ARGUMENT);
        dueThrow("11: rate ahead of a ninth", x, r -> r.addJob(0, 0, 0, 0, 1), ARGUMENT);
        dueThrow("11: bound ahead of a ninth", x, r -> r.addJob(0, 0, 0, 1, 9), ARGUMENT);
        x.cancel(3);
        dueThrow("11: a cancelled one counts", x, r -> r.addJob(0, 0, 0, 1, 1), STATE);
        due("11: eight still", x.jobs(), 8);
        for (int job = 0; job < 8; job++) {
            due("11: running at first", x.state(job), job == 3 ? 2 : 0);
            due("11: none started", x.devices(job, 0), 0);
        }
    }

    private static void promise12Starts() {
        TwinRegister x = Kit.withReports();
        x.setGroup(2, 0, 1, 6);
        x.addJob(2, 5, 30, 2, 8);
        x.put(3, 3);
        x.sleep(2);
        due("12: two", x.wave(), 2);
        due("12: by rising numbers, asleep or awake", x.devices(0, 0), Kit.bits(1, 2));
        due("12: wished", x.wished(1, 5), 30);
        due("12: wished of one asleep", x.wished(2, 5), 30);
        due("12: a version", x.version(2), 1);
        due("12: not heard", x.heard(2), 0);
        due("12: differs", x.differences(1), Kit.bits(5));
        due("12: not of the next", x.wished(3, 5), -1);
        due("12: nor a version", x.version(3), 0);
        due("12: the draft stays", x.put(3, 3), 1);
        due("12: no draft is wished", x.wished(1, 3), -1);
        Kit.reportOne(x, 3, 2, 0, 50);
        Kit.reportOne(x, 0, 2, 0, 1);
        Kit.reportOne(x, 1, 2, 0, 50);
        due("12: two more", x.wave(), 2);
        due("12: those that are members by then", x.devices(0, 0), Kit.bits(0, 1, 2, 4));
        due("12: the last two", x.wave(), 2);
        due("12: none is left", x.wave(), 0);
        Kit.reportOne(x, 7, 2, 0, 6);
        due("12: one that joins late", x.wave(), 1);
        due("12: none twice", x.version(1), 1);
        x.setGroup(2, 0, 0, 99);
        due("12: the group is set anew", x.wave(), 1);
        due("12: all", x.devices(0, 0), 255);
        due("12: running still", x.state(0), 0);
    }

    private static void promise12Judges() {
        TwinRegister x = Kit.withReports();
        x.addJob(0, 5, 30, 8, 8);
        Kit.reportOne(x, 6, 2, 5, 30);
        x.wave();
        due("12: none is done in the wave that starts it", x.devices(0, 1), 0);
        x.obey(0);
        x.refuse(1, 5, 3);
        x.refuse(2, 5, 3);
        Kit.reportOne(x, 2, 2, 5, 30);
        x.refuse(3, 5, 3);
        Kit.wishOne(x, 3, 5, 30);
        Kit.wishOne(x, 4, 5, 31);
        x.refuse(4, 5, 3);
        x.obey(5);
        Kit.reportOne(x, 5, 3, 5, 1);
        due("12: told in waves only", x.devices(0, 1) | x.devices(0, 2), 0);
        due("12: none to start", x.wave(), 0);
        due("12: done by what is reported", x.devices(0, 1), Kit.bits(0, 2, 6));
        due("12: failed by a refusal of this value", x.devices(0, 2), Kit.bits(1));
        Kit.reportOne(x, 0, 3, 5, 1);
        x.refuse(0, 5, 1);
        Kit.reportOne(x, 1, 2, 5, 30);
        Kit.reportOne(x, 4, 2, 5, 30);
        x.wave();
        due("12: done stays done", x.devices(0, 1), Kit.bits(0, 2, 4, 6));
        due("12: failed stays failed", x.devices(0, 2), Kit.bits(1));

        TwinRegister y = Kit.withReports();
        Kit.reportOne(y, 2, 2, 5, 30);
        y.setGroup(0, 0, 0, 1);
        y.addJob(0, 5, 30, 8, 8);
        y.wave();
        y.wave();
        due("12: only started ones are judged", y.devices(0, 1), 0);
    }

    private static void promise12Stops() {
        TwinRegister x = Kit.withReports();
        x.addJob(0, 5, 30, 3, 2);
        x.wave();
        x.refuse(0, 5, 1);
        due("12: below the bound it goes on", x.wave(), 3);
        due("12: running", x.state(0), 0);
        x.refuse(1, 5, 1);
        x.refuse(2, 5, 1);
        due("12: nothing is known ahead of the wave", x.state(0), 0);
        due("12: above the bound none is started", x.wave(), 0);
        due("12: stopped", x.state(0), 1);
        due("12: failed", x.devices(0, 2), Kit.bits(0, 1, 2));
        due("12: started", x.devices(0, 0), Kit.bits(0, 1, 2, 3, 4, 5));
        x.obey(3);
        due("12: a stopped one starts none", x.wave(), 0);
        due("12: and judges none", x.devices(0, 1), 0);
        due("12: 6 has no wish", x.version(6), 0);
        dueThrow("12: a stopped one is not cancelled", x, r -> r.cancel(0), STATE);

        TwinRegister y = Kit.withReports();
        y.addJob(0, 5, 30, 8, 1);
        y.wave();
        y.refuse(7, 5, 1);
        y.wave();
        due("12: at the bound", y.state(0), 1);

        TwinRegister z = Kit.withReports();
        z.addJob(0, 5, 30, 8, 8);
        z.wave();
        for (int device = 0; device < Kit.DEVICES; device++) {
            z.refuse(device, 5, 1);
            due("12: not stopped yet", z.state(0), 0);
            z.wave();
        }
        due("12: at a bound of 8", z.state(0), 1);
    }

    private static void promise12Order() {
        TwinRegister x = Kit.withReports();
        x.addJob(0, 5, 30, 8, 8);
        x.addJob(0, 5, 31, 8, 8);
        due("12: over all jobs", x.wave(), 16);
        due("12: the later job's wish stands", x.wished(4, 5), 31);
        due("12: two versions", x.version(4), 2);

        TwinRegister y = Kit.withReports();
        y.addJob(1, 5, 30, 8, 1);
        y.addJob(0, 5, 30, 8, 1);
        y.setGroup(1, 0, 50, 50);
        y.setGroup(0, 0, 0, 0);
        y.wave();
        y.refuse(0, 5, 1);
        y.setGroup(1, 0, 0, 0);
        due("12: an earlier job's wish takes the refusal back", y.wave(), 1);
        due("12: so none has failed by then", y.devices(1, 2), 0);
        due("12: not stopped", y.state(1), 0);

        TwinRegister z = Kit.withReports();
        z.addJob(0, 5, 30, 8, 1);
        z.addJob(1, 5, 30, 8, 1);
        z.setGroup(1, 0, 50, 50);
        z.setGroup(0, 0, 0, 0);
        z.wave();
        z.refuse(0, 5, 1);
        z.setGroup(1, 0, 0, 0);
        due("12: a later job's wish does not", z.wave(), 1);
        due("12: failed by then", z.devices(0, 2), Kit.bits(0));
        due("12: stopped", z.state(0), 1);
        due("12: taken back behind that", z.why(0, 5), 0);
    }

    private static void promise13() {
        TwinRegister x = Kit.withReports();
        x.addJob(0, 5, 30, 6, 8);
        x.addJob(0, 6, 30, 1, 8);
        x.wave();
        x.obey(0);
        x.refuse(1, 5, 1);
        x.refuse(2, 5, 1);
        x.wave();
        x.obey(3);
        x.refuse(4, 5, 1);
        due("13: as told in the latest wave", x.cancel(0), 5);
        due("13: cancelled", x.state(0), 2);
        due("13: the other runs", x.state(1), 0);
        dueThrow("13: cancelled already", x, r -> r.cancel(0), STATE);
        due("13: only the other starts", x.wave(), 1);
        due("13: none is judged", x.devices(0, 1), Kit.bits(0));
        due("13: started stays", x.devices(0, 0), 255);
        due("13: what is wished stays", x.wished(5, 5), 30);
        dueThrow("13: job -1", x, r -> r.cancel(-1), INDEX);
        dueThrow("13: job 2", x, r -> r.cancel(2), INDEX);
        dueThrow("13: job 8", x, r -> r.cancel(8), INDEX);
        x.addJob(0, 7, 1, 1, 1);
        due("13: none started", x.cancel(2), 0);
    }

    private static void promise14And15() {
        TwinRegister x = new TwinRegister();
        for (int version = 1; version < 4; version++) {
            Kit.wishOne(x, 5, 0, version);
            due("14: version", x.version(5), version);
            due("15: awake has heard", x.heard(5), version);
        }
        x.sleep(5);
        Kit.wishOne(x, 5, 1, 1);
        due("14: asleep", x.version(5), 4);
        due("15: asleep", x.heard(5), 3);
        x.wake(5);
        due("15: awake again", x.heard(5), 4);
        Kit.wishOne(x, 5, 1, 2);
        due("15: hears at once", x.heard(5), 5);
        due("14: others", x.version(4), 0);
        due("15: others", x.heard(6), 0);
        for (int device : new int[] {-1, 8, LEAST, MOST}) {
            dueThrow("14: device " + device, x, r -> r.version(device), INDEX);
            dueThrow("15: device " + device, x, r -> r.heard(device), INDEX);
        }
    }

    private static void promise16To18() {
        TwinRegister x = new TwinRegister();
        x.put(0, 0);
        x.put(11, 99);
        x.wish(7, -1);
        x.put(0, 99);
        x.put(11, 0);
        x.report(7, 1);
        x.refuse(7, 11, 9);
        due("16: leaf 0", x.wished(7, 0), 0);
        due("16: leaf 11", x.wished(7, 11), 99);
        due("16: none", x.wished(7, 1), -1);
        due("17: leaf 0", x.reported(7, 0), 99);
        due("17: leaf 11", x.reported(7, 11), 0);
        due("17: none", x.reported(7, 10), -1);
        due("18: refused", x.why(7, 11), 9);
        due("18: not refused", x.why(7, 0), 0);
        int[][] wrong = {{-1, 0}, {8, 0}, {0, -1}, {0, 12}, {8, 12}, {LEAST, MOST}};
        for (int[] pair : wrong) {
            dueThrow("16: " + pair[0] + ", " + pair[1], x, r -> r.wished(pair[0], pair[1]), INDEX);
            dueThrow("17: " + pair[0] + ", " + pair[1], x, r -> r.reported(pair[0], pair[1]), INDEX);
            dueThrow("18: " + pair[0] + ", " + pair[1], x, r -> r.why(pair[0], pair[1]), INDEX);
        }
        Kit.reportOne(x, 7, 2, 11, 99);
        due("18: stays though reported as wished", x.why(7, 11), 9);
        Kit.wishOne(x, 7, 11, 98);
        due("18: taken back by a wish", x.why(7, 11), 0);
        Kit.reportOne(x, 7, 3, 0, 1);
        x.refuse(7, 11, 2);
        x.setGroup(0, 0, 0, 99);
        x.addJob(0, 11, 98, 1, 1);
        x.wave();
        due("18: taken back by a job's wish", x.why(7, 11), 0);
    }

    private static void dueDifferences(String what, TwinRegister x, int device, int want) {
        due("19: " + what, x.differences(device), want);
        due("20: " + what, x.differencesAnew(device), want);
    }

    private static void promise19And20() {
        TwinRegister x = new TwinRegister();
        dueDifferences("none at first", x, 1, 0);
        Kit.reportOne(x, 1, 1, 4, 10);
        dueDifferences("reported but not wished", x, 1, 0);
        x.put(0, 1);
        x.put(4, 10);
        x.put(11, 0);
        x.wish(1, -1);
        dueDifferences("wished, not as reported", x, 1, Kit.bits(0, 11));
        Kit.reportOne(x, 1, 2, 0, 2);
        dueDifferences("another reported", x, 1, Kit.bits(0, 11));
        Kit.reportOne(x, 1, 3, 0, 1);
        dueDifferences("reported as wished", x, 1, Kit.bits(11));
        Kit.reportOne(x, 1, 4, 4, -1);
        dueDifferences("reported none", x, 1, Kit.bits(4, 11));
        x.refuse(1, 11, 1);
        dueDifferences("refused", x, 1, Kit.bits(4));
        Kit.reportOne(x, 1, 5, 11, 50);
        dueDifferences("reported though refused", x, 1, Kit.bits(4));
        x.sleep(1);
        Kit.wishOne(x, 1, 11, 0);
        dueDifferences("wished anew, asleep", x, 1, Kit.bits(4, 11));
        x.drop(1);
        x.wish(1, -1);
        dueDifferences("dropped", x, 1, Kit.bits(11));
        x.wake(1);
        dueDifferences("awake", x, 1, Kit.bits(11));
        x.setGroup(0, 11, 50, 50);
        x.addJob(0, 3, 9, 1, 1);
        x.wave();
        dueDifferences("a job's wish", x, 1, Kit.bits(3, 11));
        x.obey(1);
        dueDifferences("obeyed", x, 1, 0);
        dueDifferences("others", x, 0, 0);
        for (int leaf = 0; leaf < Kit.LEAVES; leaf++) {
            x.put(leaf, 33);
        }
        x.wish(2, -1);
        dueDifferences("all", x, 2, 4095);
        for (int device : new int[] {-1, 8, LEAST, MOST}) {
            dueThrow("19: device " + device, x, r -> r.differences(device), INDEX);
            dueThrow("20: device " + device, x, r -> r.differencesAnew(device), INDEX);
        }
    }

    private static void promise21() {
        TwinRegister x = Kit.withReports();
        due("21: all", x.members(0), 255);
        x.setGroup(0, 0, 2, 4);
        due("21: both ends are in", x.members(0), Kit.bits(2, 3, 4));
        Kit.reportOne(x, 3, 2, 0, 5);
        due("21: one leaves", x.members(0), Kit.bits(2, 4));
        Kit.reportOne(x, 7, 2, 0, 2);
        due("21: one joins", x.members(0), Kit.bits(2, 4, 7));
        Kit.reportOne(x, 2, 2, 0, -1);
        due("21: none is no value", x.members(0), Kit.bits(4, 7));
        Kit.wishOne(x, 0, 0, 3);
        due("21: what is wished does not count", x.members(0), Kit.bits(4, 7));
        x.obey(0);
        due("21: what is obeyed does", x.members(0), Kit.bits(0, 4, 7));
        x.sleep(4);
        due("21: asleep or awake", x.members(0), Kit.bits(0, 4, 7));
        Kit.reportOne(x, 0, 2, 0, 99);
        due("21: a doubled one does not count", x.members(0), Kit.bits(0, 4, 7));
        due("21: another group", x.members(3), 255 & ~Kit.bits(2));
        for (int group : new int[] {-1, 4, LEAST, MOST}) {
            dueThrow("21: group " + group, x, r -> r.members(group), INDEX);
        }
    }

    private static void promise22And23() {
        TwinRegister x = Kit.withReports();
        for (int job = 0; job < 8; job++) {
            due("22: jobs", x.jobs(), job);
            int next = job;
            dueThrow("23: not there yet", x, r -> r.state(next), INDEX);
            x.addJob(0, job, 1, 8, 1);
            due("23: running", x.state(job), 0);
        }
        due("22: eight", x.jobs(), 8);
        dueThrow("23: job -1", x, r -> r.state(-1), INDEX);
        dueThrow("23: job 8", x, r -> r.state(8), INDEX);
        dueThrow("23: greatest", x, r -> r.state(MOST), INDEX);
        x.cancel(5);
        due("23: cancelled", x.state(5), 2);
        x.wave();
        x.refuse(0, 2, 1);
        x.wave();
        due("23: stopped", x.state(2), 1);
        due("23: cancelled still", x.state(5), 2);
        due("22: none goes", x.jobs(), 8);
    }

    private static void promise24() {
        TwinRegister x = Kit.withReports();
        x.addJob(0, 5, 30, 4, 8);
        x.wave();
        x.obey(0);
        x.obey(2);
        x.refuse(3, 5, 7);
        x.wave();
        due("24: started", x.devices(0, 0), 255);
        due("24: done", x.devices(0, 1), Kit.bits(0, 2));
        due("24: failed", x.devices(0, 2), Kit.bits(3));
        dueThrow("24: kind -1", x, r -> r.devices(0, -1), ARGUMENT);
        dueThrow("24: kind 3", x, r -> r.devices(0, 3), ARGUMENT);
        dueThrow("24: greatest kind", x, r -> r.devices(0, MOST), ARGUMENT);
        dueThrow("24: job -1", x, r -> r.devices(-1, 0), INDEX);
        dueThrow("24: job 1", x, r -> r.devices(1, 0), INDEX);
        dueThrow("24: job first", x, r -> r.devices(1, 3), INDEX);
        x.cancel(0);
        due("24: told of a cancelled one", x.devices(0, 1), Kit.bits(0, 2));
    }

    private static void thrownChangesNothing() {
        Kit.CallOf[] calls = {
            r -> r.put(12, 0), r -> r.put(-1, 0), r -> r.put(8, 100), r -> r.put(8, -2),
            r -> r.drop(3), r -> r.drop(-1),
            r -> r.wish(8, -1), r -> r.wish(0, 50), r -> r.wish(6, 0),
            r -> r.report(8, 1), r -> r.report(0, 0), r -> r.report(0, 9), r -> r.report(6, 2), r -> r.report(6, 1),
            r -> r.obey(8), r -> r.obey(6),
            r -> r.refuse(8, 4, 1), r -> r.refuse(2, 12, 1), r -> r.refuse(2, 6, 0), r -> r.refuse(2, 6, 10),
            r -> r.refuse(6, 1, 1), r -> r.refuse(0, 4, 1), r -> r.refuse(0, 0, 1),
            r -> r.sleep(8) ? 1 : 0, r -> r.sleep(-1) ? 1 : 0, r -> r.wake(8), r -> r.wake(-1),
            r -> r.setGroup(4, 0, 0, 9), r -> r.setGroup(1, 12, 0, 9), r -> r.setGroup(1, 1, -1, 9),
            r -> r.setGroup(1, 1, 3, 2), r -> r.setGroup(1, 1, 3, 100),
            r -> r.addJob(4, 0, 0, 1, 1), r -> r.addJob(0, 12, 0, 1, 1), r -> r.addJob(0, 0, 100, 1, 1),
            r -> r.addJob(0, 0, 0, 9, 1), r -> r.addJob(0, 0, 0, 1, 9), r -> r.addJob(0, 0, 0, 1, 1),
            r -> r.cancel(8), r -> r.cancel(5), r -> r.cancel(-1),
            r -> r.version(8), r -> r.heard(8), r -> r.wished(0, 12), r -> r.reported(8, 0), r -> r.why(0, -1),
            r -> r.differences(8), r -> r.differencesAnew(8), r -> r.members(4), r -> r.state(8),
            r -> r.devices(8, 0), r -> r.devices(0, 3),
        };
        List<String> readings = Kit.readings(Kit.busy());
        List<String> hidden = Kit.hidden(Kit.busy());
        for (int number = 0; number < calls.length; number++) {
            TwinRegister x = Kit.busy();
            TwinRegister y = Kit.busy();
            int call = number;
            String told = Kit.told(() -> calls[call].on(x));
            Kit.due("thrown call " + number + " " + told, told.endsWith("Exception"), true);
            Kit.told(() -> calls[call].on(y));
            Kit.dueSame("behind the thrown call " + number, Kit.readings(x), readings);
            Kit.dueSame("behind the thrown call " + number + ", hidden", Kit.hidden(y), hidden);
        }
    }

    private static void objectsAreApart() {
        TwinRegister x = new TwinRegister();
        List<String> fresh = Kit.readings(x);
        Kit.busy();
        Kit.dueSame("objects are apart", Kit.readings(new TwinRegister()), fresh);
        TwinRegister y = new TwinRegister();
        Kit.busy();
        due("objects are apart: the draft", y.put(0, 0), 1);
    }
}
