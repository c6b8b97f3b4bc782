/** Promises 17 to 19: undo, save, restore. */
public final class HistoryTest {
    private static final Check check = new Check();

    public static void main(String[] args) {
        fiveStates();
        longHistory();
        undoBringsAllBack();
        errorsAreNotRecorded();
        unchangedIsRecorded();
        slots();
        restoreIsRecorded();
        slotsKeepCopies();
        textIsNoState();
        eachRecordedCallIsUndone();
        eachIsRestored();
        othersOfTheSameNumber();
        countsAreUndone();
        check.end();
    }

    private static void fiveStates() {
        VacantAir book = new VacantAir();
        check.due("nothing to undo", book.undo(), VacantAir.NOT_POSSIBLE);
        for (int i = 1; i <= 8; i++) {
            book.addDevice(i, i, 0);
            check.due("kept after " + i, book.total(11), Math.min(i, 5));
        }
        for (int left = 4; left >= 0; left--) {
            check.due("undo", book.undo(), left);
            check.due("devices", book.total(3), 3 + left);
            check.due("history", book.total(11), left);
        }
        check.due("no more", book.undo(), VacantAir.NOT_POSSIBLE);
        check.due("devices stay", book.total(3), 3);
        check.due("the next number", book.addDevice(50, 60, 1), 3);
        check.due("its place", book.device(3, 0), 50);
    }

    private static void longHistory() {
        VacantAir book = new VacantAir();
        for (int i = 0; i < 23; i++) {
            book.pass(1);
            if (i % 3 == 2) {
                check.due("undo", book.undo(), i == 2 ? 2 : 4);
                book.pass(1);
            }
            check.due("hour", book.total(0), i + 1);
        }
        for (int left = 4; left >= 0; left--) {
            check.due("undo", book.undo(), left);
            check.due("hour", book.total(0), 18 + left);
        }
    }

    private static void undoBringsAllBack() {
        VacantAir book = new VacantAir();
        book.addStation(50, 50, 0, 0);
        book.addDevice(50, 50, 3);
        book.addDevice(70, 70, 0);
        book.lease(0, 3, 30);
        book.lease(1, 0, 90);
        book.lease(0, 0, 1);
        book.set(2, 20);
        book.set(0, 10);
        book.wake(0);
        check.due("hop", book.pass(4), 1);
        check.due("hops", book.device(0, 7), 1);
        check.due("undo", book.undo(), 4);
        check.due("hour", book.total(0), 0);
        check.due("channel", book.device(0, 3), 0);
        check.due("notice", book.device(0, 6), 0);
        check.due("hops", book.device(0, 7), 0);
        check.due("undo", book.undo(), 3);
        check.due("asleep", book.total(4), 0);
        check.due("no notice", book.total(6), 0);
        check.due("the reason stays", book.total(10), 1);
        check.due("undo", book.undo(), 2);
        check.due("adjacent", book.total(13), 40);
        check.due("undo", book.undo(), 1);
        check.due("grace", book.total(15), 3);
        check.due("reason", book.total(10), 1);
        check.due("undo", book.undo(), 0);
        check.due("leases", book.total(5), 1);
        check.due("the reason ahead of the second lease", book.total(10), 0);
    }

    private static void errorsAreNotRecorded() {
        VacantAir book = new VacantAir();
        book.addDevice(1, 1, 0);
        book.lease(0, 3, 1);
        book.lease(0, 3, 0);
        book.lease(9, 3, 0);
        book.renew(0, 1);
        book.giveBack(0);
        book.pass(0);
        book.wake(0);
        book.sleep(0);
        book.cancel(0);
        book.set(5, 5);
        book.addStation(-1, 0, 0, 0);
        book.addEvent(-1, 0, 0, 0, 0, 0);
        book.addDevice(-1, 0, 0);
        book.restore(0);
        book.restore(2);
        book.append(120);
        book.run();
        book.save(0);
        book.save(2);
        check.due("one state", book.total(11), 1);
        check.due("undo", book.undo(), 0);
        check.due("no device", book.total(3), 0);
        check.due("no reason", book.total(10), 0);
    }

    private static void unchangedIsRecorded() {
        VacantAir book = new VacantAir();
        check.due("the same value", book.set(0, 40), 40);
        check.due("recorded", book.total(11), 1);
        check.due("an empty run", book.run(), 0);
        check.due("recorded", book.total(11), 2);
        book.save(1);
        check.due("the same state", book.restore(1), 0);
        check.due("recorded", book.total(11), 3);
    }

    private static void slots() {
        VacantAir book = new VacantAir();
        int[] bad = {-1, 2, Integer.MAX_VALUE, Integer.MIN_VALUE};
        for (int slot : bad) {
            check.due("save " + slot, book.save(slot), VacantAir.BAD_INDEX);
            check.due("restore " + slot, book.restore(slot), VacantAir.BAD_INDEX);
        }
        book.pass(3);
        check.due("save", book.save(1), 3);
        check.due("slot 0 is empty", book.restore(0), VacantAir.NOT_POSSIBLE);
        book.pass(4);
        check.due("save", book.save(0), 7);
        check.due("restore", book.restore(1), 3);
        check.due("hour", book.total(0), 3);
        check.due("restore", book.restore(0), 7);
        check.due("hour", book.total(0), 7);
        book.pass(1);
        check.due("save over it", book.save(0), 8);
        book.restore(1);
        check.due("the later one", book.restore(0), 8);
    }

    private static void restoreIsRecorded() {
        VacantAir book = new VacantAir();
        book.addDevice(5, 5, 2);
        book.save(0);
        book.lease(0, 2, 9);
        book.pass(2);
        check.due("three", book.total(11), 3);
        check.due("restore", book.restore(0), 0);
        check.due("four: the history is no part of the state", book.total(11), 4);
        check.due("no lease", book.total(5), 0);
        check.due("undo", book.undo(), 3);
        check.due("hour", book.total(0), 2);
        check.due("a lease", book.total(5), 1);
        check.due("undo", book.undo(), 2);
        check.due("undo", book.undo(), 1);
        check.due("undo", book.undo(), 0);
        check.due("no device", book.total(3), 0);
        check.due("the slot stays", book.restore(0), 0);
        check.due("the device", book.total(3), 1);
    }

    private static void slotsKeepCopies() {
        VacantAir book = new VacantAir();
        book.addStation(1, 1, 1, 1);
        book.addEvent(1, 1, 1, 1, 0, 50);
        book.addDevice(1, 1, 1);
        book.lease(0, 0, 9);
        book.lease(0, 0, 9);
        book.set(1, 7);
        book.save(0);
        for (int round = 0; round < 2; round++) {
            book.wake(0);
            book.cancel(0);
            book.giveBack(0);
            book.set(1, 2);
            book.lease(0, 1, 5);
            book.addDevice(2, 2, 2);
            book.pass(9);
            check.due("restore", book.restore(0), 0);
            check.due("asleep", book.station(0, 5), 0);
            check.due("not cancelled", book.event(0, 6), 0);
            check.due("the end", book.device(0, 5), 9);
            check.due("the power", book.device(0, 4), 0);
            check.due("the period", book.total(14), 7);
            check.due("the devices", book.total(3), 1);
            check.due("the reason", book.total(10), 1);
        }
    }

    private static void textIsNoState() {
        VacantAir book = new VacantAir();
        book.pass(1);
        check.write(book, "t1;");
        book.save(0);
        book.undo();
        check.due("undo leaves the text", book.total(12), 3);
        check.write(book, "t2;");
        book.restore(0);
        check.due("restore leaves the text", book.total(12), 6);
        check.due("run", book.run(), 2);
        check.due("hour", book.total(0), 4);
    }

    /** A book in which something of everything has happened. */
    private static VacantAir richBook() {
        VacantAir book = new VacantAir();
        book.addDevice(50, 50, 3);
        book.addDevice(10, 10, 2);
        book.addDevice(90, 90, 1);
        book.addDevice(50, 10, 0);
        int[] channels = {1, 4, 7, 0};
        for (int station = 0; station < 4; station++) {
            book.addStation(10 + station / 3 * 40, 10 + station / 3 * 40, channels[station], 2);
        }
        book.addStation(90, 90, 2, 1);
        book.addEvent(50, 90, 7, 6, 3, 80);
        book.set(0, 100);
        book.set(1, 1);
        check.due("lease", book.lease(0, 3, 90), 0);
        check.due("lease", book.lease(1, 2, 90), 1);
        check.due("lease", book.lease(2, 1, 90), 2);
        check.due("wake", book.wake(0), 1);
        check.due("wake", book.wake(1), 1);
        check.due("wake", book.wake(2), 1);
        check.due("wake", book.wake(3), 2);
        check.due("a hop and a strike", book.pass(1), 1);
        book.set(1, 12);
        book.set(2, 0);
        check.due("wake", book.wake(4), 1);
        check.due("a cut", book.pass(1), 0);
        book.set(2, 7);
        check.due("lease", book.lease(3, 0, 80), 0);
        check.due("lease", book.lease(2, 1, 60), 4);
        check.due("refused", book.lease(1, 0, 80), VacantAir.REFUSED);
        check.due("hops", book.device(0, 7), 1);
        check.due("struck", book.device(1, 8), 1);
        check.due("cut", book.device(2, 9), 1);
        return book;
    }

    private static final int CALLS = 14;

    private static int recordedCall(VacantAir book, int call) {
        switch (call) {
            case 0: return book.addStation(1, 2, 3, 4);
            case 1: return book.addEvent(50, 10, 30, 0, 2, 4);
            case 2: return book.addDevice(1, 2, 3);
            case 3: return book.set(0, 3);
            case 4: return book.set(1, 3);
            case 5: return book.set(2, 0);
            case 6: return book.sleep(0);
            case 7: return book.cancel(0);
            case 8: return book.renew(0, 5);
            case 9: return book.giveBack(3);
            case 10: return book.pass(99);
            case 11: return book.run();
            case 12: return book.restore(1);
            default:
                book.giveBack(0);
                return book.lease(0, 1, 7);
        }
    }

    private static void eachRecordedCallIsUndone() {
        for (int call = 0; call < CALLS; call++) {
            VacantAir book = richBook();
            check.write(book, "z4;t12;l1p0h3;");
            int[] before = Look.at(book);
            check.due("a slot with what is now", book.save(1), 2);
            int answer = recordedCall(book, call);
            check.due("call " + call + " is no error", answer >= 0 ? 1 : 0, 1);
            if (call != 12) {
                check.due("call " + call + " changes something", Look.same(book, before) ? 1 : 0, 0);
            }
            check.due("undo of call " + call, book.undo(), 4);
            if (call == CALLS - 1) {
                check.due("undo of its giving back", book.undo(), 3);
            }
            check.due("call " + call + " is undone", Look.same(book, before) ? 1 : 0, 1);
        }
    }

    private static void eachIsRestored() {
        for (int call = 0; call < CALLS; call++) {
            VacantAir book = richBook();
            check.write(book, "z4;t12;l1p0h3;");
            int[] before = Look.at(book);
            check.due("save", book.save(1), 2);
            check.due("call " + call + " is no error", recordedCall(book, call) >= 0 ? 1 : 0, 1);
            check.due("restore", book.restore(1), 2);
            check.due("call " + call + " is gone", Look.same(book, before) ? 1 : 0, 1);
        }
    }

    private static void othersOfTheSameNumber() {
        VacantAir book = new VacantAir();
        book.addStation(1, 2, 3, 4);
        book.addEvent(5, 6, 7, 1, 9, 10);
        book.addDevice(11, 12, 3);
        int[] before = Look.at(book);
        book.save(0);
        book.undo();
        book.undo();
        book.undo();
        book.addStation(21, 22, 5, 2);
        book.wake(0);
        book.addEvent(25, 26, 27, 2, 29, 30);
        book.cancel(0);
        book.addDevice(31, 32, 1);
        int[] others = Look.at(book);
        book.restore(0);
        check.due("restored", Look.same(book, before) ? 1 : 0, 1);
        book.undo();
        check.due("undone", Look.same(book, others) ? 1 : 0, 1);
    }

    private static void countsAreUndone() {
        VacantAir book = richBook();
        book.set(1, 1);
        book.addEvent(90, 90, 30, 4, 3, 9);
        book.set(2, 0);
        int[] before = Look.at(book);
        check.due("a hop", book.pass(2), 1);
        check.due("hops", book.total(7), 2);
        check.due("undo", book.undo(), 4);
        check.due("the hop is undone", Look.same(book, before) ? 1 : 0, 1);
        book.set(1, 12);
        before = Look.at(book);
        book.pass(2);
        check.due("cuts", book.total(9), 2);
        check.due("undo", book.undo(), 4);
        check.due("the cut is undone", Look.same(book, before) ? 1 : 0, 1);
        strikeIsUndone();
    }

    private static void strikeIsUndone() {
        VacantAir book = new VacantAir();
        book.addDevice(50, 50, 0);
        book.set(0, 100);
        book.set(1, 1);
        book.lease(0, 0, 9);
        for (int station = 0; station < 3; station++) {
            book.addStation(50, 50, 3 * station + 1, 0);
            book.wake(station);
        }
        int[] before = Look.at(book);
        book.pass(1);
        check.due("struck", book.total(8), 1);
        check.due("undo", book.undo(), 4);
        check.due("the strike is undone", Look.same(book, before) ? 1 : 0, 1);
    }
}
