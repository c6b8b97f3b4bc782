/** Promises 6 to 12: wake, sleep, cancel, lease, renew, giveBack, pass. */
public final class ActsTest {
    private static final Check check = new Check();

    public static void main(String[] args) {
        wakeAndSleep();
        adjacentChannels();
        cancel();
        leaseRefusals();
        leaseChecks();
        offersSpread();
        renew();
        giveBack();
        passChecks();
        leasesEnd();
        hops();
        hopsToLowerPower();
        strikes();
        cuts();
        graceCountsFromTheNotice();
        recording();
        check.end();
    }

    private static void wakeAndSleep() {
        VacantAir book = new VacantAir();
        check.due("wake without stations", book.wake(0), VacantAir.BAD_INDEX);
        check.due("sleep without stations", book.sleep(0), VacantAir.BAD_INDEX);
        book.addStation(50, 50, 0, 0);
        book.addStation(50, 50, 1, 4);
        book.addDevice(50, 64, 3);
        book.addDevice(50, 35, 3);
        book.set(0, 0);
        check.due("lease", book.lease(0, 3, 50), 0);
        check.due("lease", book.lease(1, 3, 50), 1);
        check.due("asleep already", book.sleep(0), VacantAir.NOT_POSSIBLE);
        check.due("wake -1", book.wake(-1), VacantAir.BAD_INDEX);
        check.due("wake 2", book.wake(2), VacantAir.BAD_INDEX);
        check.due("wake", book.wake(0), 1);
        check.due("awake", book.station(0, 5), 1);
        check.due("one is awake", book.total(4), 1);
        check.due("a notice at a distance of 14", book.device(0, 6), 0);
        check.due("none on another channel", book.device(1, 6), VacantAir.NONE);
        check.due("awake already", book.wake(0), VacantAir.NOT_POSSIBLE);
        check.due("the other wakes, too", book.wake(1), 2);
        check.due("sleep", book.sleep(0), 1);
        check.due("asleep", book.station(0, 5), 0);
        check.due("no notice any more", book.device(0, 6), VacantAir.NONE);
        check.due("the other's notice stays", book.device(1, 6), 0);
        check.due("sleep 2", book.sleep(2), VacantAir.BAD_INDEX);
        check.due("sleep -1", book.sleep(-1), VacantAir.BAD_INDEX);
        farEnough();
    }

    private static void farEnough() {
        VacantAir book = new VacantAir();
        book.addStation(50, 50, 0, 0);
        book.addDevice(50, 65, 3);
        check.due("lease", book.lease(0, 3, 50), 0);
        check.due("no notice at a distance of 15", book.wake(0), 0);
    }

    private static void adjacentChannels() {
        VacantAir book = new VacantAir();
        int none = VacantAir.NONE;
        book.addStation(50, 50, 3, 4);
        book.wake(0);
        // The radius is 40 on channel 3, and 40 * 40 / 100 = 16 on channels 2 and 4.
        int[] atSeventeen = {3, 3, none, none, none, 3, 3, 3};
        int[] atTwenty = {3, 3, 1, none, 1, 3, 3, 3};
        for (int channel = 0; channel < 8; channel++) {
            check.due("17 away on " + channel, book.power(channel, 67, 50), atSeventeen[channel]);
            check.due("20 away on " + channel, book.power(channel, 50, 70), atTwenty[channel]);
        }
        check.due("41 away on 3", book.power(3, 91, 50), none);
        check.due("42 away on 3", book.power(3, 92, 50), 0);
    }

    private static void cancel() {
        VacantAir book = new VacantAir();
        check.due("no event", book.cancel(0), VacantAir.BAD_INDEX);
        book.addDevice(50, 50, 0);
        book.addDevice(50, 60, 0);
        book.addEvent(50, 50, 3, 0, 2, 5);
        book.addEvent(50, 60, 3, 0, 4, 6);
        book.addEvent(90, 90, 3, 7, 1, 3);
        book.lease(0, 0, 50);
        // The other lease counts on channel 0, so device 1 is offered channel 1.
        check.due("the second lease", book.lease(1, 0, 50), 1);
        book.set(2, 20);
        book.set(1, 12);
        check.due("event -1", book.cancel(-1), VacantAir.BAD_INDEX);
        check.due("event 3", book.cancel(3), VacantAir.BAD_INDEX);
        check.due("cancel before it begins", book.cancel(1), 0);
        check.due("cancelled", book.event(1, 6), 1);
        check.due("cancel twice", book.cancel(1), VacantAir.NOT_POSSIBLE);
        book.pass(2);
        check.due("a notice", book.total(6), 1);
        check.due("event 2 is on", book.event(2, 7), 1);
        book.pass(1);
        check.due("an event that ends now", book.cancel(2), VacantAir.NOT_POSSIBLE);
        book.pass(1);
        check.due("an event that ended", book.cancel(2), VacantAir.NOT_POSSIBLE);
        check.due("event 0 is on", book.event(0, 7), 1);
        check.due("the notice is from its beginning", book.device(0, 6), 2);
        check.due("cancel while it is on, which takes the notice away", book.cancel(0), 0);
        check.due("it is on no more", book.event(0, 7), 0);
        check.due("no notice", book.device(0, 6), VacantAir.NONE);
    }

    private static void leaseRefusals() {
        VacantAir book = new VacantAir();
        book.addDevice(50, 50, 1);
        book.addStation(50, 50, 1, 4);
        book.addStation(50, 50, 4, 4);
        book.addStation(50, 50, 7, 4);
        book.set(0, 100);
        book.wake(0);
        book.wake(1);
        check.due("a first lease", book.lease(0, 1, 3), 6);
        check.due("a second one", book.lease(0, 1, 3), VacantAir.REFUSED);
        check.due("reason 1", book.total(10), 1);
        check.due("reason 1 ahead of 2", book.lease(0, 2, 3), VacantAir.REFUSED);
        check.due("reason 1 still", book.total(10), 1);
        book.giveBack(0);
        check.due("giving back leaves the reason", book.total(10), 1);
        check.due("above the greatest power", book.lease(0, 2, 3), VacantAir.REFUSED);
        check.due("reason 2", book.total(10), 2);
        check.due("a good lease", book.lease(0, 1, 3), 6);
        check.due("no reason", book.total(10), 0);
        book.giveBack(0);
        book.wake(2);
        check.due("nowhere allowed", book.lease(0, 0, 3), VacantAir.REFUSED);
        check.due("reason 3", book.total(10), 3);
        check.due("reason 2 ahead of 3", book.lease(0, 3, 3), VacantAir.REFUSED);
        check.due("reason 2 again", book.total(10), 2);
        book.sleep(2);
        book.addDevice(50, 52, 0);
        book.addDevice(52, 50, 0);
        check.due("another takes the channel", book.lease(1, 0, 9), 6);
        check.due("and another the last one", book.lease(2, 0, 9), 7);
        check.due("no channel is free", book.lease(0, 0, 3), VacantAir.REFUSED);
        check.due("reason 4", book.total(10), 4);
        check.due("a refusal is not recorded", book.undo(), 4);
        check.due("the reason belongs to the state", book.total(10), 0);
        check.due("so does the lease", book.total(5), 1);
        check.due("a channel is free again", book.lease(0, 0, 3), 7);
    }

    private static void leaseChecks() {
        VacantAir book = new VacantAir();
        book.addDevice(0, 0, 3);
        book.lease(0, 0, 1);
        book.lease(0, 0, 1);
        check.due("no such device", book.lease(1, 9, 0), VacantAir.BAD_INDEX);
        check.due("device -1", book.lease(-1, 0, 1), VacantAir.BAD_INDEX);
        check.due("power -1", book.lease(0, -1, 1), VacantAir.BAD_VALUE);
        check.due("power 4", book.lease(0, 4, 1), VacantAir.BAD_VALUE);
        check.due("no hours", book.lease(0, 0, 0), VacantAir.BAD_VALUE);
        check.due("100 hours", book.lease(0, 0, 100), VacantAir.BAD_VALUE);
        check.due("errors leave the reason", book.total(10), 1);
        book.giveBack(0);
        check.due("99 hours", book.lease(0, 3, 99), 0);
        check.due("the channel", book.device(0, 3), 0);
        check.due("the power", book.device(0, 4), 3);
        check.due("the end", book.device(0, 5), 99);
        check.due("no notice", book.device(0, 6), VacantAir.NONE);
        check.due("leases", book.total(5), 1);
    }

    private static void offersSpread() {
        VacantAir book = new VacantAir();
        for (int device = 0; device < 10; device++) {
            book.addDevice(device * 11, 0, 1);
        }
        for (int device = 0; device < 10; device++) {
            check.due("lease of " + device, book.lease(device, 1, 9), device % 8);
        }
        book.giveBack(3);
        book.giveBack(8);
        check.due("the emptiest channel", book.lease(8, 0, 9), 3);
        check.due("then the first of several", book.lease(3, 0, 9), 0);
    }

    private static void renew() {
        VacantAir book = new VacantAir();
        book.addDevice(50, 50, 3);
        book.addStation(50, 50, 0, 0);
        check.due("without a lease", book.renew(0, 1), VacantAir.NOT_POSSIBLE);
        check.due("device 1", book.renew(1, 0), VacantAir.BAD_INDEX);
        check.due("device -1", book.renew(-1, 1), VacantAir.BAD_INDEX);
        check.due("no hours, no lease", book.renew(0, 0), VacantAir.BAD_VALUE);
        book.lease(0, 3, 10);
        book.pass(4);
        check.due("100 hours", book.renew(0, 100), VacantAir.BAD_VALUE);
        book.lease(0, 0, 1);
        check.due("reason 1", book.total(10), 1);
        check.due("renew", book.renew(0, 2), 6);
        check.due("no reason", book.total(10), 0);
        check.due("shorter than it was", book.device(0, 5), 6);
        check.due("renew", book.renew(0, 99), 103);
        check.due("wake", book.wake(0), 1);
        int history = book.total(11);
        check.due("with a notice", book.renew(0, 5), VacantAir.REFUSED);
        check.due("reason 5", book.total(10), 5);
        check.due("the end stays", book.device(0, 5), 103);
        check.due("not recorded", book.total(11), history);
    }

    private static void giveBack() {
        VacantAir book = new VacantAir();
        book.addDevice(0, 0, 0);
        book.addDevice(99, 99, 0);
        book.addStation(0, 0, 0, 0);
        check.due("without a lease", book.giveBack(0), VacantAir.NOT_POSSIBLE);
        check.due("device 2", book.giveBack(2), VacantAir.BAD_INDEX);
        check.due("device -1", book.giveBack(-1), VacantAir.BAD_INDEX);
        book.lease(0, 0, 9);
        book.lease(1, 0, 9);
        book.wake(0);
        check.due("a notice", book.total(6), 1);
        check.due("give back", book.giveBack(0), 1);
        check.due("its notice is gone", book.total(6), 0);
        for (int property = 3; property <= 6; property++) {
            check.due("nothing is left", book.device(0, property), VacantAir.NONE);
        }
        check.due("again", book.giveBack(0), VacantAir.NOT_POSSIBLE);
        check.due("the other", book.giveBack(1), 0);
    }

    private static void passChecks() {
        VacantAir book = new VacantAir();
        check.due("no hours", book.pass(0), VacantAir.BAD_VALUE);
        check.due("-1 hours", book.pass(-1), VacantAir.BAD_VALUE);
        check.due("100 hours", book.pass(100), VacantAir.BAD_VALUE);
        check.due("most hours", book.pass(Integer.MAX_VALUE), VacantAir.BAD_VALUE);
        for (int i = 0; i < 101; i++) {
            check.due("99 hours", book.pass(99), 0);
        }
        check.due("hour 9999", book.total(0), 9999);
        check.due("one hour too late", book.pass(1), VacantAir.NOT_POSSIBLE);
        check.due("bad hours at the end", book.pass(0), VacantAir.BAD_VALUE);
        check.due("no event any more", book.addEvent(0, 0, 1, 0, 9999, 9999), VacantAir.BAD_VALUE);
        book.undo();
        check.due("hour 9900", book.total(0), 9900);
        book.pass(1);
        check.due("99 hours would be too late by one", book.pass(99), VacantAir.NOT_POSSIBLE);
        check.due("98 are not", book.pass(98), 0);
        check.due("the device", book.addDevice(1, 1, 1), 0);
        check.due("a lease beyond the last hour", book.lease(0, 0, 99), 0);
        check.due("its end", book.device(0, 5), 10098);
        check.due("asking beyond the last hour", book.device(0, 10), 10000);
    }

    private static void leasesEnd() {
        VacantAir book = new VacantAir();
        book.addDevice(0, 0, 0);
        book.lease(0, 0, 2);
        book.pass(1);
        check.due("it has it in the hours before", book.total(5), 1);
        book.pass(1);
        check.due("it ends", book.total(5), 0);
        check.due("not cut", book.total(9), 0);
        check.due("not struck", book.total(8), 0);
        // A lease that ends now ends ahead of the asking and of the cutting.
        book.addStation(0, 0, 0, 0);
        book.set(1, 1);
        book.set(2, 0);
        book.lease(0, 0, 1);
        book.wake(0);
        check.due("no hop", book.pass(1), 0);
        check.due("no lease", book.total(5), 0);
        check.due("nothing cut", book.total(9), 0);
    }

    private static void hops() {
        VacantAir book = new VacantAir();
        for (int device = 0; device < 4; device++) {
            book.addDevice(20 + device * 20, 50, 0);
            check.due("lease", book.lease(device, 0, 50), device);
        }
        book.addStation(20, 50, 0, 0);
        book.addStation(80, 50, 3, 0);
        book.wake(0);
        check.due("two notices", book.wake(1), 2);
        // Device 3 asks at hour 1, device 0 at hour 4; the grace of 3 would cut device 0 at hour 3.
        check.due("device 0 asks", book.device(0, 10), 4);
        check.due("device 3 asks", book.device(3, 10), 1);
        check.due("one hop", book.pass(1), 1);
        check.due("device 3 hops", book.device(3, 3), 5);
        check.due("with the same power", book.device(3, 4), 0);
        check.due("and the same end", book.device(3, 5), 50);
        check.due("no notice", book.device(3, 6), VacantAir.NONE);
        check.due("its hops", book.device(3, 7), 1);
        check.due("device 3 asks again", book.device(3, 10), 5);
        book.set(2, 20);
        check.due("another hop", book.pass(3), 1);
        check.due("the emptiest channel at a small number", book.device(0, 3), 3);
        check.due("hops", book.total(7), 2);
        check.due("struck", book.total(8), 0);
        check.due("cut", book.total(9), 0);
    }

    private static void hopsToLowerPower() {
        VacantAir book = new VacantAir();
        book.addDevice(50, 50, 3);
        book.lease(0, 3, 50);
        for (int channel = 0; channel < 8; channel += 2) {
            book.addStation(50, 58, channel, 0);
        }
        book.set(0, 100);
        book.set(1, 1);
        for (int station = 0; station < 4; station++) {
            book.wake(station);
        }
        // A distance of 8 is not in 4 + 3, but it is in 4 + 6.
        check.due("a hop", book.pass(1), 1);
        check.due("to the same channel", book.device(0, 3), 0);
        check.due("with less power", book.device(0, 4), 1);
        check.due("no notice", book.total(6), 0);
    }

    private static void strikes() {
        VacantAir book = new VacantAir();
        book.addDevice(50, 50, 3);
        book.lease(0, 2, 50);
        for (int channel = 1; channel < 8; channel += 3) {
            book.addStation(50, 50, channel, 4);
        }
        book.set(0, 100);
        book.wake(0);
        book.wake(1);
        book.wake(2);
        book.set(1, 1);
        book.set(2, 0);
        check.due("no hop", book.pass(1), 0);
        check.due("no lease", book.total(5), 0);
        check.due("struck", book.total(8), 1);
        check.due("the device's", book.device(0, 8), 1);
        check.due("struck ahead of cut", book.total(9), 0);
        check.due("no channel", book.device(0, 3), VacantAir.NONE);
        check.due("no notice", book.device(0, 6), VacantAir.NONE);
        check.due("no hop counted", book.device(0, 7), 0);
    }

    private static void cuts() {
        for (int grace = 0; grace <= 20; grace++) {
            VacantAir book = new VacantAir();
            book.addDevice(50, 50, 0);
            book.addStation(50, 50, 0, 0);
            book.addStation(50, 50, 2, 0);
            book.addStation(50, 50, 4, 0);
            book.addStation(50, 50, 6, 0);
            book.set(1, 12);
            book.set(2, grace);
            book.lease(0, 0, 99);
            book.pass(1);
            book.wake(0);
            // It asks at hour 12 only, and there it hops ahead of the cutting.
            int hours = Math.max(1, grace);
            if (hours > 10) {
                check.due("a hop, grace " + grace, book.pass(11), 1);
                check.due("not cut", book.total(9), 0);
                continue;
            }
            if (hours > 1) {
                book.pass(hours - 1);
                check.due("still there, grace " + grace, book.total(5), 1);
            }
            book.pass(1);
            check.due("gone, grace " + grace, book.total(5), 0);
            check.due("cut", book.total(9), 1);
            check.due("the device's", book.device(0, 9), 1);
        }
    }

    private static void graceCountsFromTheNotice() {
        VacantAir book = new VacantAir();
        book.addDevice(50, 50, 0);
        book.addEvent(50, 50, 5, 0, 3, 90);
        book.set(1, 12);
        book.lease(0, 0, 99);
        book.pass(5);
        check.due("notice at the beginning", book.device(0, 6), 3);
        check.due("there at hour 5", book.total(5), 1);
        book.pass(1);
        check.due("cut at hour 6", book.total(9), 1);
    }

    private static void recording() {
        VacantAir book = new VacantAir();
        book.addStation(50, 50, 0, 0);
        book.addEvent(10, 10, 3, 0, 0, 50);
        book.addDevice(50, 50, 0);
        book.wake(0);
        book.sleep(0);
        check.due("undo sleep", book.undo(), 4);
        check.due("awake", book.station(0, 5), 1);
        check.due("undo wake", book.undo(), 3);
        check.due("asleep", book.station(0, 5), 0);
        book.cancel(0);
        check.due("undo cancel", book.undo(), 3);
        check.due("not cancelled", book.event(0, 6), 0);
        book.lease(0, 0, 9);
        check.due("undo lease", book.undo(), 3);
        check.due("no lease", book.total(5), 0);
        book.lease(0, 0, 9);
        book.renew(0, 50);
        check.due("undo renew", book.undo(), 4);
        check.due("the old end", book.device(0, 5), 9);
        book.giveBack(0);
        check.due("undo giving back", book.undo(), 4);
        check.due("a lease", book.total(5), 1);
        book.pass(9);
        check.due("undo pass", book.undo(), 4);
        check.due("hour 0", book.total(0), 0);
        check.due("the lease again", book.total(5), 1);
    }
}
