/** Promises 17 to 19: undo, save, restore. */
public final class HistoryTest {
    private static final Check check = new Check();

    public static void main(String[] args) {
        fiveStates();
        longHistory();
        undoBringsAllBack();
        errorsAreNotRecorded();
        unchangedIsRecorded();
        slots();
        restoreIsRecorded();
        slotsKeepCopies();
        textIsNoState();
        check.end();
    }

    private static void fiveStates() {
        VacantAir book = new VacantAir();
        check.due("nothing to undo", book.undo(), VacantAir.NOT_POSSIBLE);
        for (int i = 1; i <= 8; i++) {
            book.addDevice(i, i, 0);
            check.due("kept after " + i, book.total(11), Math.min(i, 5));
        }
        for (int left = 4; left >= 0; left--) {
            check.due("undo", book.undo(), left);
            check.due("devices", book.total(3), 3 + left);
            check.due("history", book.total(11), left);
        }
        check.due("no more", book.undo(), VacantAir.NOT_POSSIBLE);
        check.due("devices stay", book.total(3), 3);
        check.due("the next number", book.addDevice(50, 60, 1), 3);
        check.due("its place", book.device(3, 0), 50);
    }

    private static void longHistory() {
        VacantAir book = new VacantAir();
        for (int i = 0; i < 23; i++) {
            book.pass(1);
            if (i % 3 == 2) {
                check.due("undo", book.undo(), i == 2 ? 2 : 4);
                book.pass(1);
            }
            check.due("hour", book.total(0), i + 1);
        }
        for (int left = 4; left >= 0; left--) {
            check.due("undo", book.undo(), left);
            check.due("hour", book.total(0), 18 + left);
        }
    }

    private static void undoBringsAllBack() {
        VacantAir book = new VacantAir();
        book.addStation(50, 50, 0, 0);
        book.addDevice(50, 50, 3);
        book.addDevice(70, 70, 0);
        book.lease(0, 3, 30);
        book.lease(1, 0, 90);
        book.lease(0, 0, 1);
        book.set(2, 20);
        book.set(0, 10);
        book.wake(0);
        check.due("hop", book.pass(4), 1);
        check.due("hops", book.device(0, 7), 1);
        check.due("undo", book.undo(), 4);
        check.due("hour", book.total(0), 0);
        check.due("channel", book.device(0, 3), 0);
        check.due("notice", book.device(0, 6), 0);
        check.due("hops", book.device(0, 7), 0);
        check.due("undo", book.undo(), 3);
        check.due("asleep", book.total(4), 0);
        check.due("no notice", book.total(6), 0);
        check.due("the reason stays", book.total(10), 1);
        check.due("undo", book.undo(), 2);
        check.due("adjacent", book.total(13), 40);
        check.due("undo", book.undo(), 1);
        check.due("grace", book.total(15), 3);
        check.due("reason", book.total(10), 1);
        check.due("undo", book.undo(), 0);
        check.due("leases", book.total(5), 1);
        check.due("the reason ahead of the second lease", book.total(10), 0);
    }

    private static void errorsAreNotRecorded() {
        VacantAir book = new VacantAir();
        book.addDevice(1, 1, 0);
        book.lease(0, 3, 1);
        book.lease(0, 3, 0);
        book.lease(9, 3, 0);
        book.renew(0, 1);
        book.giveBack(0);
        book.pass(0);
        book.wake(0);
        book.sleep(0);
        book.cancel(0);
        book.set(5, 5);
        book.addStation(-1, 0, 0, 0);
        book.addEvent(-1, 0, 0, 0, 0, 0);
        book.addDevice(-1, 0, 0);
        book.restore(0);
        book.restore(2);
        book.append(120);
        book.run();
        book.save(0);
        book.save(2);
        check.due("one state", book.total(11), 1);
        check.due("undo", book.undo(), 0);
        check.due("no device", book.total(3), 0);
        check.due("no reason", book.total(10), 0);
    }

    private static void unchangedIsRecorded() {
        VacantAir book = new VacantAir();
        check.due("the same value", book.set(0, 40), 40);
        check.due("recorded", book.total(11), 1);
        check.due("an empty run", book.run(), 0);
        check.due("recorded", book.total(11), 2);
        book.save(1);
        check.due("the same state", book.restore(1), 0);
        check.due("recorded", book.total(11), 3);
    }

    private static void slots() {
        VacantAir book = new VacantAir();
        int[] bad = {-1, 2, Integer.MAX_VALUE, Integer.MIN_VALUE};
        for (int slot : bad) {
            check.due("save " + slot, book.save(slot), VacantAir.BAD_INDEX);
            check.due("restore " + slot, book.restore(slot), VacantAir.BAD_INDEX);
        }
        book.pass(3);
        check.due("save", book.save(1), 3);
        check.due("slot 0 is empty", book.restore(0), VacantAir.NOT_POSSIBLE);
        book.pass(4);
        check.due("save", book.save(0), 7);
        check.due("restore", book.restore(1), 3);
        check.due("hour", book.total(0), 3);
        check.due("restore", book.restore(0), 7);
        check.due("hour", book.total(0), 7);
        book.pass(1);
        check.due("save over it", book.save(0), 8);
        book.restore(1);
        check.due("the later one", book.restore(0), 8);
    }

    private static void restoreIsRecorded() {
        VacantAir book = new VacantAir();
        book.addDevice(5, 5, 2);
        book.save(0);
        book.lease(0, 2, 9);
        book.pass(2);
        check.due("three", book.total(11), 3);
        check.due("restore", book.restore(0), 0);
        check.due("four: the history is no part of the state", book.total(11), 4);
        check.due("no lease", book.total(5), 0);
        check.due("undo", book.undo(), 3);
        check.due("hour", book.total(0), 2);
        check.due("a lease", book.total(5), 1);
        check.due("undo", book.undo(), 2);
        check.due("undo", book.undo(), 1);
        check.due("undo", book.undo(), 0);
        check.due("no device", book.total(3), 0);
        check.due("the slot stays", book.restore(0), 0);
        check.due("the device", book.total(3), 1);
    }

    private static void slotsKeepCopies() {
        VacantAir book = new VacantAir();
        book.addStation(1, 1, 1, 1);
        book.addEvent(1, 1, 1, 1, 0, 50);
        book.addDevice(1, 1, 1);
        book.lease(0, 0, 9);
        book.lease(0, 0, 9);
        book.set(1, 7);
        book.save(0);
        for (int round = 0; round < 2; round++) {
            book.wake(0);
            book.cancel(0);
            book.giveBack(0);
            book.set(1, 2);
            book.lease(0, 1, 5);
            book.addDevice(2, 2, 2);
            book.pass(9);
            check.due("restore", book.restore(0), 0);
            check.due("asleep", book.station(0, 5), 0);
            check.due("not cancelled", book.event(0, 6), 0);
            check.due("the end", book.device(0, 5), 9);
            check.due("the power", book.device(0, 4), 0);
            check.due("the period", book.total(14), 7);
            check.due("the devices", book.total(3), 1);
            check.due("the reason", book.total(10), 1);
        }
    }

    private static void textIsNoState() {
        VacantAir book = new VacantAir();
        book.pass(1);
        check.write(book, "t1;");
        book.save(0);
        book.undo();
        check.due("undo leaves the text", book.total(12), 3);
        check.write(book, "t2;");
        book.restore(0);
        check.due("restore leaves the text", book.total(12), 6);
        check.due("run", book.run(), 2);
        check.due("hour", book.total(0), 4);
    }
}
