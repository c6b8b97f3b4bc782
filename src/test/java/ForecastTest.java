/** Promises 28 to 32: vacant, allowedFrom, wouldStrike, channelIn, clearIn. */
public final class ForecastTest {
    private static final Check check = new Check();
    private static final int NONE = VacantAir.NONE;
    private static final int BAD_INDEX = VacantAir.BAD_INDEX;
    private static final int BAD_VALUE = VacantAir.BAD_VALUE;

    public static void main(String[] args) {
        vacant();
        allowedFrom();
        allowedFromBetweenEvents();
        allowedFromUnderStations();
        wouldStrike();
        channelIn();
        channelInMeetsWhatComes();
        clearIn();
        clearInAtItsEdge();
        beyondTheLastHour();
        nothingChanges();
        check.end();
    }

    private static void vacant() {
        VacantAir book = new VacantAir();
        int[][] bad = {{-1, 0}, {8, 0}, {0, -1}, {0, 4}};
        for (int[] a : bad) {
            check.due("bad vacant", book.vacant(a[0], a[1]), BAD_VALUE);
        }
        book.addStation(5, 5, 3, 1);
        check.due("all", book.vacant(3, 3), 100);
        book.wake(0);
        // With 9 + 1 the places at distances 0 and 10 are in it; 9 + 3 and 9 + 6 reach 10 and 14.1.
        check.due("power 0", book.vacant(3, 0), 97);
        check.due("power 1", book.vacant(3, 1), 97);
        check.due("power 2", book.vacant(3, 2), 96);
        check.due("power 3", book.vacant(3, 3), 96);
        // 9 * 40 / 100 is 3, so power 3 reaches 13 on the next channels.
        check.due("next channel, power 2", book.vacant(2, 2), 99);
        check.due("next channel, power 3", book.vacant(4, 3), 97);
        check.due("another channel", book.vacant(5, 3), 100);
        book.addEvent(95, 95, 20, 3, 0, 1);
        check.due("an event", book.vacant(3, 0), 97 - 6);
        book.pass(1);
        check.due("it ended", book.vacant(3, 0), 97);
        check.due("channel 7", book.vacant(7, 3), 100);
        book.addDevice(55, 55, 3);
        book.lease(0, 0, 9);
        check.due("leases do not count", book.vacant(0, 0), 100);
    }

    private static void allowedFrom() {
        VacantAir book = new VacantAir();
        int[][] bad = {{-1, 0, 0, 0}, {8, 0, 0, 0}, {0, -1, 0, 0}, {0, 100, 0, 0}, {0, 0, -1, 0},
            {0, 0, 100, 0}, {0, 0, 0, -1}, {0, 0, 0, 4}};
        for (int[] a : bad) {
            check.due("bad allowedFrom", book.allowedFrom(a[0], a[1], a[2], a[3]), BAD_VALUE);
        }
        check.due("now", book.allowedFrom(0, 0, 0, 3), 0);
        book.pass(7);
        check.due("now", book.allowedFrom(0, 0, 0, 3), 7);
        book.addEvent(50, 50, 10, 0, 7, 9999);
        check.due("at the last hour", book.allowedFrom(0, 50, 60, 0), 9999);
        check.due("power 0 at 11", book.allowedFrom(0, 50, 61, 0), 9999);
        check.due("power 0 at 12", book.allowedFrom(0, 50, 62, 0), 7);
        check.due("power 1 at 12", book.allowedFrom(0, 50, 62, 1), 9999);
        check.due("another channel", book.allowedFrom(1, 50, 50, 3), 7);
        check.due("channel 7", book.allowedFrom(7, 50, 50, 3), 7);
        book.cancel(0);
        check.due("cancelled", book.allowedFrom(0, 50, 50, 3), 7);
    }

    private static void allowedFromBetweenEvents() {
        VacantAir book = new VacantAir();
        book.addEvent(50, 50, 10, 0, 20, 30);
        book.addEvent(50, 50, 10, 0, 3, 8);
        book.addEvent(50, 50, 10, 0, 0, 5);
        book.addEvent(50, 50, 10, 0, 2, 3);
        book.addEvent(50, 50, 10, 0, 0, 2);
        book.addEvent(10, 10, 10, 0, 8, 12);
        book.addEvent(50, 50, 10, 1, 8, 12);
        check.due("after a chain of events", book.allowedFrom(0, 50, 50, 0), 8);
        book.addEvent(50, 50, 10, 0, 8, 20);
        check.due("after a longer chain", book.allowedFrom(0, 50, 50, 0), 30);
        book.cancel(7);
        check.due("the chain is broken", book.allowedFrom(0, 50, 50, 0), 8);
        check.due("another place", book.allowedFrom(0, 10, 10, 0), 0);
        book.pass(8);
        check.due("now", book.allowedFrom(0, 50, 50, 0), 8);
        check.due("another place", book.allowedFrom(0, 10, 10, 0), 12);
        book.pass(13);
        check.due("in the last one", book.allowedFrom(0, 50, 50, 0), 30);
        book.pass(9);
        check.due("after it", book.allowedFrom(0, 50, 50, 0), 30);
        book.pass(9);
        check.due("later", book.allowedFrom(0, 50, 50, 0), 39);
    }

    private static void allowedFromUnderStations() {
        VacantAir book = new VacantAir();
        book.addStation(50, 50, 0, 0);
        book.addEvent(50, 50, 10, 0, 0, 9);
        check.due("the station is asleep", book.allowedFrom(0, 50, 50, 0), 9);
        book.wake(0);
        check.due("never", book.allowedFrom(0, 50, 50, 0), NONE);
        check.due("never on the next channel", book.allowedFrom(1, 50, 50, 0), NONE);
        check.due("farther away", book.allowedFrom(0, 50, 56, 0), 9);
        book.sleep(0);
        check.due("asleep again", book.allowedFrom(0, 50, 50, 0), 9);
    }

    private static void wouldStrike() {
        VacantAir book = new VacantAir();
        check.due("station 0", book.wouldStrike(0), BAD_INDEX);
        book.addStation(50, 50, 1, 0);
        book.addStation(50, 50, 1, 4);
        for (int device = 0; device < 4; device++) {
            book.addDevice(50, 50 + device * 12, 3);
            check.due("lease", book.lease(device, 3, 50), device);
        }
        check.due("station -1", book.wouldStrike(-1), BAD_INDEX);
        check.due("station 2", book.wouldStrike(2), BAD_INDEX);
        // Device 0 on channel 0: 1 + 10; device 1 on channel 1: 4 + 10; device 2: 1 + 10 is less than 24.
        check.due("two", book.wouldStrike(0), 2);
        check.due("three", book.wouldStrike(1), 3);
        check.due("no notice comes of it", book.total(6), 0);
        check.due("nobody wakes of it", book.total(4), 0);
        check.due("wake", book.wake(0), 2);
        check.due("awake", book.wouldStrike(0), VacantAir.NOT_POSSIBLE);
        check.due("one more", book.wouldStrike(1), 1);
        check.due("wake", book.wake(1), 3);
        check.due("sleep", book.sleep(0), 3);
        check.due("none more", book.wouldStrike(0), 0);
    }

    private static VacantAir threatened() {
        VacantAir book = new VacantAir();
        book.addDevice(50, 50, 3);
        book.addDevice(90, 10, 3);
        book.addEvent(50, 50, 5, 0, 3, 60);
        book.addEvent(50, 50, 5, 2, 10, 60);
        book.addStation(90, 10, 1, 0);
        check.due("lease", book.lease(0, 3, 20), 0);
        check.due("lease", book.lease(1, 0, 50), 1);
        return book;
    }

    private static void channelIn() {
        VacantAir book = threatened();
        check.due("device -1", book.channelIn(-1, 0), BAD_INDEX);
        check.due("device 2", book.channelIn(2, 100), BAD_INDEX);
        check.due("hours -1", book.channelIn(0, -1), BAD_VALUE);
        check.due("hours 100", book.channelIn(0, 100), BAD_VALUE);
        check.due("now", book.channelIn(0, 0), 0);
        check.due("with a notice at hour 3", book.channelIn(0, 3), 0);
        check.due("hopped at hour 4", book.channelIn(0, 4), 2);
        check.due("with a notice at hour 11", book.channelIn(0, 11), 2);
        check.due("hopped at hour 12", book.channelIn(0, 12), 3);
        check.due("at hour 19", book.channelIn(0, 19), 3);
        check.due("ended at hour 20", book.channelIn(0, 20), NONE);
        check.due("after 99 hours", book.channelIn(0, 99), NONE);
        check.due("the other stays", book.channelIn(1, 49), 1);
        check.due("until its end", book.channelIn(1, 50), NONE);
        book.giveBack(0);
        check.due("without a lease", book.channelIn(0, 0), NONE);
    }

    private static void channelInMeetsWhatComes() {
        VacantAir book = threatened();
        book.wake(0);
        int[][] told = new int[2][61];
        for (int hours = 0; hours <= 60; hours++) {
            told[0][hours] = book.channelIn(0, hours);
            told[1][hours] = book.channelIn(1, hours);
        }
        for (int hours = 0; hours <= 60; hours++) {
            check.due("device 0 after " + hours, book.device(0, 3), told[0][hours]);
            check.due("device 1 after " + hours, book.device(1, 3), told[1][hours]);
            book.pass(1);
        }
    }

    private static void clearIn() {
        VacantAir book = threatened();
        check.due("none now", book.clearIn(), 0);
        book.pass(3);
        check.due("device 0 asks in an hour", book.clearIn(), 1);
        book.wake(0);
        check.due("notices", book.total(6), 2);
        check.due("device 1 asks at hour 7, and the grace ends at hour 6", book.clearIn(), 3);
        book.set(2, 20);
        check.due("with more grace", book.clearIn(), 4);
        book.set(2, 0);
        check.due("with none", book.clearIn(), 1);
        book.set(2, 20);
        book.renew(1, 1);
        check.due("a notice can't be renewed away", book.total(10), 5);
        book.sleep(0);
        check.due("asleep", book.clearIn(), 1);
        book.giveBack(0);
        check.due("given back", book.clearIn(), 0);
    }

    private static void clearInAtItsEdge() {
        VacantAir book = alwaysThreatened(51);
        check.due("a notice", book.total(6), 1);
        check.due("not clear within 50 hours", book.clearIn(), NONE);
        check.due("clear after 50 hours", alwaysThreatened(50).clearIn(), 50);
        check.due("clear after 49 hours", alwaysThreatened(49).clearIn(), 49);
        check.due("an hour later", book.pass(1), 0);
        check.due("it is within 50 hours", book.clearIn(), 50);
    }

    /**
     * Device 0 asks at hour 12, device 1 at 23, 2 at 34, 3 at 45 and 4 at 56. Each gets a notice
     * when the one before it hops, so that some lease has one until the last lease ends.
     */
    private static VacantAir alwaysThreatened(int end) {
        VacantAir book = new VacantAir();
        book.set(1, 12);
        book.set(2, 20);
        int[] begins = {0, 12, 23, 34, 45};
        for (int device = 0; device < 5; device++) {
            book.addDevice(device * 10, 50, 0);
            check.due("lease", book.lease(device, 0, device == 4 ? end : 99), device);
            book.addEvent(device * 10, 50, 1, device, begins[device], 99);
        }
        return book;
    }

    private static void beyondTheLastHour() {
        VacantAir book = new VacantAir();
        for (int i = 0; i < 101; i++) {
            book.pass(99);
        }
        book.addDevice(50, 50, 0);
        book.addStation(50, 50, 0, 0);
        book.lease(0, 0, 60);
        check.due("beyond hour 9999", book.channelIn(0, 59), 0);
        check.due("its end", book.channelIn(0, 60), NONE);
        book.set(1, 12);
        book.set(2, 20);
        book.wake(0);
        // Hour 10008 is divisible by 12.
        check.due("before it asks", book.channelIn(0, 8), 0);
        check.due("after it asked", book.channelIn(0, 9), 2);
        check.due("clear", book.clearIn(), 9);
        check.due("the hour stays", book.total(0), 9999);
        check.due("it is allowed never", book.allowedFrom(0, 50, 50, 0), NONE);
    }

    private static void nothingChanges() {
        VacantAir book = threatened();
        book.wake(0);
        book.sleep(0);
        int[] before = Look.at(book);
        int history = book.total(11);
        for (int hours = 0; hours < 100; hours += 9) {
            book.channelIn(0, hours);
        }
        book.clearIn();
        book.wouldStrike(0);
        book.allowedFrom(0, 50, 50, 3);
        book.vacant(0, 3);
        book.station(0, 6);
        book.offer(0, 3);
        check.due("nothing changes", Look.same(book, before) ? 1 : 0, 1);
        check.due("history", book.total(11), history);
        check.due("undo", book.undo(), history - 1);
        check.due("awake", book.station(0, 5), 1);
    }
}
