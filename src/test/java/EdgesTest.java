/**
 * The edges that the section "Terms" of the document names: distances, channels without a
 * neighbour, the order in which things happen in an hour, and the last hours.
 */
public final class EdgesTest {
    private static final Check check = new Check();
    private static final int NONE = VacantAir.NONE;
    private static final int REFUSED = VacantAir.REFUSED;
    private static final int NOT_POSSIBLE = VacantAir.NOT_POSSIBLE;
    private static final int[] RADII = {4, 9, 16, 26, 40};
    private static final int[] REACHES = {1, 3, 6, 10};

    public static void main(String[] args) {
        adjacentDistances();
        slantDistances();
        channelsDoNotWrapAround();
        eventDistances();
        eventHours();
        asleepBarsNothing();
        offersOfFewest();
        nowhereAllowed();
        refusalsInOrder();
        leaseHours();
        noticesKeepTheirHour();
        leasesEndAheadOfAsking();
        reviewAheadOfAsking();
        askingInAscendingOrder();
        askingAheadOfCutting();
        cuttingAtOnce();
        askingHours();
        hopsKeepTheEnd();
        reasonOfTheLatestTry();
        wouldStrikeAndWake();
        orderOfTies();
        check.end();
    }

    private static VacantAir bookWith(int adjacent, int period, int grace) {
        VacantAir book = new VacantAir();
        book.set(0, adjacent);
        book.set(1, period);
        book.set(2, grace);
        return book;
    }

    /** Bars channels 2 to 7 all around a place, so that 0 and 1 are left. */
    private static void leaveTwoChannels(VacantAir book, int x, int y) {
        for (int channel = 3; channel <= 6; channel += 3) {
            book.wake(book.addStation(x, y, channel, 0));
        }
        check.due("channel 1 is left", book.power(1, x, y), 3);
        check.due("channel 2 is not", book.power(2, x, y), NONE);
        check.due("channel 7 is not", book.power(7, x, y), NONE);
    }

    private static void edge(VacantAir book, int channel, int edge, int power) {
        String what = "power " + power + " on channel " + channel + " at a distance of ";
        check.due(what + edge, book.power(channel, 0, edge), power - 1 < 0 ? NONE : power - 1);
        check.due(what + (edge + 1), book.power(channel, edge + 1, 0), power);
    }

    private static void adjacentDistances() {
        int[] adjacents = {0, 1, 3, 6, 12, 24, 25, 33, 40, 49, 50, 99, 100};
        for (int rank = 0; rank < 5; rank++) {
            VacantAir book = new VacantAir();
            book.wake(book.addStation(0, 0, 4, rank));
            for (int adjacent : adjacents) {
                book.set(0, adjacent);
                for (int power = 0; power < 4; power++) {
                    int edge = RADII[rank] * adjacent / 100 + REACHES[power];
                    edge(book, 3, edge, power);
                    edge(book, 5, edge, power);
                }
                check.due("not two channels below", book.power(2, 0, 0), 3);
                check.due("nor two above", book.power(6, 0, 0), 3);
            }
        }
    }

    private static void slantDistances() {
        VacantAir book = new VacantAir();
        book.wake(book.addStation(50, 50, 0, 1));
        // 9 + 6 is 15, which is the distance of 9 and 12 on each side; 10 and 12 are farther.
        for (int x = -1; x <= 1; x += 2) {
            for (int y = -1; y <= 1; y += 2) {
                check.due("at 15", book.power(0, 50 + 9 * x, 50 + 12 * y), 1);
                check.due("at 15", book.power(0, 50 + 12 * x, 50 + 9 * y), 1);
                check.due("past 15", book.power(0, 50 + 10 * x, 50 + 12 * y), 2);
                check.due("past 15", book.power(0, 50 + 12 * x, 50 + 10 * y), 2);
            }
        }
    }

    private static void channelsDoNotWrapAround() {
        VacantAir book = bookWith(100, 4, 3);
        book.addStation(50, 50, 0, 4);
        book.addStation(50, 50, 7, 4);
        book.wake(0);
        check.due("channel 0 bars channel 1", book.power(1, 50, 50), NONE);
        check.due("but not channel 7", book.power(7, 50, 50), 3);
        book.sleep(0);
        book.wake(1);
        check.due("channel 7 bars channel 6", book.power(6, 50, 50), NONE);
        check.due("but not channel 0", book.power(0, 50, 50), 3);
    }

    private static void eventDistances() {
        for (int radius = 1; radius <= 30; radius++) {
            VacantAir book = bookWith(100, 4, 3);
            book.addEvent(0, 0, radius, 5, 0, 1);
            for (int power = 0; power < 4; power++) {
                edge(book, 5, radius + REACHES[power], power);
            }
            check.due("the channel below", book.power(4, 0, 0), 3);
            check.due("the channel above", book.power(6, 0, 0), 3);
        }
    }

    private static void eventHours() {
        VacantAir book = new VacantAir();
        book.addEvent(50, 50, 5, 0, 0, 1);
        book.addEvent(50, 50, 5, 1, 1, 2);
        book.addEvent(50, 50, 5, 2, 2, 3);
        for (int hour = 0; hour < 4; hour++) {
            for (int event = 0; event < 3; event++) {
                check.due("event " + event + " at hour " + hour, book.event(event, 7), hour == event ? 1 : 0);
                check.due("its channel", book.power(event, 50, 50), hour == event ? NONE : 3);
                check.due("from when", book.allowedFrom(event, 50, 50, 0), hour == event ? hour + 1 : hour);
            }
            book.pass(1);
        }
        book.addEvent(50, 50, 5, 3, 4, 5);
        book.addEvent(50, 50, 5, 3, 5, 6);
        book.pass(1);
        check.due("it ends now", book.cancel(3), NOT_POSSIBLE);
        check.due("it begins now", book.cancel(4), 0);
        check.due("cancelled, so not on", book.event(4, 7), 0);
    }

    private static void asleepBarsNothing() {
        VacantAir book = bookWith(100, 4, 3);
        for (int channel = 0; channel < 8; channel++) {
            book.addStation(50, 50, channel, 4);
        }
        for (int channel = 0; channel < 8; channel++) {
            check.due("all are asleep", book.power(channel, 50, 50), 3);
            check.due("all is vacant", book.vacant(channel, 3), 100);
        }
        check.due("the eighth wakes", book.wake(7), 0);
        check.due("channel 7", book.power(7, 50, 50), NONE);
        check.due("channel 6", book.power(6, 50, 50), NONE);
        check.due("channel 5", book.power(5, 50, 50), 3);
    }

    private static void offersOfFewest() {
        VacantAir book = new VacantAir();
        for (int device = 0; device < 16; device++) {
            book.addDevice(6 * device, 0, 0);
            check.due("lease " + device, book.lease(device, 0, 50), device % 8);
        }
        check.due("two on each channel", book.leases(7), 2);
        check.due("fewest without its own, the smallest number", book.offer(8, 0), 0);
        check.due("one with one other ahead of two", book.offer(15, 0), 7);
        check.due("its own is not counted", book.offer(7, 0), 7);
        book.giveBack(13);
        check.due("fewest is the channel that was given back", book.offer(13, 0), 5);
        check.due("of two with one other the smaller number", book.offer(0, 0), 0);
        book.giveBack(14);
        check.due("of two the smaller number", book.offer(14, 0), 5);
    }

    private static void nowhereAllowed() {
        VacantAir book = bookWith(100, 4, 3);
        book.addDevice(50, 50, 0);
        int[] channels = {0, 3, 6};
        for (int station = 0; station < 3; station++) {
            check.due("an offer is left", book.offer(0, 0) >= 0 ? 1 : 0, 1);
            book.addStation(50, 50, channels[station], 0);
            book.wake(station);
        }
        check.due("no channel is left", book.offer(0, 0), NONE);
        check.due("refused", book.lease(0, 0, 1), REFUSED);
        check.due("reason 3", book.total(10), 3);
        for (int station = 0; station < 3; station++) {
            book.sleep(station);
            int first = station == 0 ? 0 : station == 1 ? 2 : 5;
            check.due("the first channel that is left", book.lease(0, 0, 1), first);
            book.giveBack(0);
            book.wake(station);
        }
    }

    private static void refusalsInOrder() {
        VacantAir book = bookWith(100, 12, 20);
        book.addDevice(50, 50, 1);
        book.addDevice(50, 51, 3);
        book.addDevice(51, 50, 3);
        leaveTwoChannels(book, 50, 50);
        check.due("lease", book.lease(1, 0, 90), 0);
        check.due("lease", book.lease(2, 0, 90), 1);
        check.due("no offer", book.lease(0, 1, 1), REFUSED);
        check.due("reason 4", book.total(10), 4);
        check.due("too much power and no offer", book.lease(0, 2, 1), REFUSED);
        check.due("reason 2", book.total(10), 2);
        check.due("a lease and no offer", book.lease(1, 0, 1), REFUSED);
        check.due("reason 1", book.total(10), 1);
        book.addEvent(50, 50, 9, 0, 0, 9);
        check.due("one is not allowed, one is not free", book.lease(0, 0, 1), REFUSED);
        check.due("reason 4 again", book.total(10), 4);
        book.addEvent(50, 50, 9, 1, 0, 9);
        check.due("none is allowed, whether free or not", book.lease(0, 0, 1), REFUSED);
        check.due("reason 3", book.total(10), 3);
        check.due("too much power and nowhere allowed", book.lease(0, 2, 1), REFUSED);
        check.due("reason 2 again", book.total(10), 2);
        check.due("a lease and nowhere allowed", book.lease(1, 0, 1), REFUSED);
        check.due("reason 1 again", book.total(10), 1);
    }

    private static void leaseHours() {
        VacantAir book = new VacantAir();
        book.addDevice(50, 50, 0);
        book.lease(0, 0, 3);
        for (int hour = 0; hour < 3; hour++) {
            check.due("it has it at hour " + hour, book.device(0, 3), 0);
            check.due("it will have it until hour 2", book.channelIn(0, 2 - hour), 0);
            check.due("and not at hour 3", book.channelIn(0, 3 - hour), NONE);
            book.pass(1);
        }
        check.due("it has it no more", book.device(0, 3), NONE);
        book.lease(0, 0, 2);
        book.pass(1);
        check.due("renewed in its last hour", book.renew(0, 1), 5);
        book.pass(1);
        check.due("it ended", book.renew(0, 1), NOT_POSSIBLE);
        check.due("a new lease at once", book.lease(0, 0, 99), 0);
        check.due("the last hour of 99", book.channelIn(0, 98), 0);
        check.due("99 hours later", book.channelIn(0, 99), NONE);
        book.pass(98);
        check.due("there in the last hour", book.total(5), 1);
        book.pass(1);
        check.due("gone", book.total(5), 0);
    }

    private static void noticesKeepTheirHour() {
        VacantAir book = bookWith(40, 12, 20);
        book.addDevice(50, 50, 0);
        book.addStation(50, 50, 0, 0);
        book.addStation(50, 50, 1, 4);
        book.lease(0, 0, 90);
        book.pass(1);
        check.due("a notice", book.wake(0), 1);
        book.pass(2);
        check.due("another reason for it", book.wake(1), 1);
        check.due("given at hour 1", book.device(0, 6), 1);
        check.due("the first reason is gone", book.sleep(0), 1);
        check.due("given at hour 1 still", book.device(0, 6), 1);
        check.due("both are gone", book.sleep(1), 0);
        check.due("no notice", book.device(0, 6), NONE);
        check.due("renewed", book.renew(0, 90), 93);
        check.due("a new notice", book.wake(1), 1);
        check.due("given at hour 3", book.device(0, 6), 3);
        check.due("not to be renewed", book.renew(0, 90), REFUSED);
        book.set(0, 0);
        check.due("an adjacent percentage of 0 bars within the reach", book.device(0, 6), 3);
    }

    private static void leasesEndAheadOfAsking() {
        for (int hours = 4; hours <= 5; hours++) {
            VacantAir book = bookWith(100, 4, 20);
            book.addDevice(50, 50, 0);
            book.addDevice(50, 51, 0);
            leaveTwoChannels(book, 50, 50);
            check.due("lease", book.lease(0, 0, 50), 0);
            check.due("lease", book.lease(1, 0, hours), 1);
            book.addEvent(50, 49, 1, 0, 1, 50);
            // Device 0 asks at hour 4, and device 1 has channel 1 up to hour 4 or 5.
            check.due("a hop if the other ended", book.pass(4), 5 - hours);
            check.due("its channel", book.device(0, 3), hours == 4 ? 1 : NONE);
            check.due("struck if it did not", book.total(8), hours - 4);
        }
    }

    private static void reviewAheadOfAsking() {
        VacantAir book = bookWith(40, 4, 0);
        book.addDevice(50, 50, 0);
        book.lease(0, 0, 50);
        book.addEvent(50, 50, 1, 0, 4, 50);
        check.due("an event that begins when it asks", book.pass(4), 1);
        check.due("hopped", book.device(0, 3), 1);
        check.due("not cut", book.total(9), 0);
        book = bookWith(40, 4, 20);
        book.addDevice(50, 50, 0);
        book.lease(0, 0, 50);
        book.addEvent(50, 50, 1, 0, 1, 4);
        book.pass(3);
        check.due("a notice", book.device(0, 6), 1);
        check.due("an event that ends when it asks", book.pass(1), 0);
        check.due("not hopped", book.device(0, 3), 0);
        check.due("no notice", book.device(0, 6), NONE);
        check.due("cut by the same hour", endingWhenCut(4), 0);
        check.due("cut in the hour ahead", endingWhenCut(5), 1);
    }

    /** Grace 3 and a notice given at hour 1: it would be cut at hour 4. */
    private static int endingWhenCut(int end) {
        VacantAir book = bookWith(40, 12, 3);
        book.addDevice(50, 50, 0);
        book.lease(0, 0, 50);
        book.addEvent(50, 50, 1, 0, 1, end);
        book.pass(4);
        return book.total(9);
    }

    private static void askingInAscendingOrder() {
        VacantAir book = bookWith(100, 1, 20);
        book.addDevice(50, 50, 0);
        book.addDevice(50, 52, 0);
        leaveTwoChannels(book, 50, 51);
        check.due("lease", book.lease(0, 0, 50), 0);
        check.due("lease", book.lease(1, 0, 50), 1);
        // Channel 0 is barred at device 0 alone, channel 1 at device 1 alone, and 2 apart is too near.
        book.addEvent(50, 49, 1, 0, 1, 50);
        book.addEvent(50, 53, 1, 1, 1, 50);
        check.due("one hop", book.pass(1), 1);
        check.due("device 0 asks while the other has its lease", book.device(0, 8), 1);
        check.due("device 1 takes the channel that is free then", book.device(1, 3), 0);
        twoForOneChannel();
    }

    private static void twoForOneChannel() {
        VacantAir book = bookWith(100, 1, 20);
        book.addDevice(50, 50, 0);
        book.addDevice(50, 52, 0);
        book.wake(book.addStation(50, 51, 4, 0));
        book.wake(book.addStation(50, 51, 7, 0));
        check.due("lease", book.lease(0, 0, 50), 0);
        check.due("lease", book.lease(1, 0, 50), 1);
        book.addEvent(50, 51, 1, 0, 1, 50);
        book.addEvent(50, 51, 1, 1, 1, 50);
        check.due("one hop, for only channel 2 is left", book.pass(1), 1);
        check.due("the smaller number has it", book.device(0, 3), 2);
        check.due("the other is struck", book.device(1, 8), 1);
    }

    private static void askingAheadOfCutting() {
        for (int begin = 8; begin >= 7; begin--) {
            VacantAir book = bookWith(100, 12, 3);
            book.addDevice(50, 50, 0);
            book.addDevice(50, 52, 0);
            leaveTwoChannels(book, 50, 51);
            check.due("lease", book.lease(0, 0, 50), 0);
            check.due("lease", book.lease(1, 0, 50), 1);
            book.addEvent(50, 49, 1, 0, begin, 50);
            book.addEvent(50, 53, 1, 1, 10, 50);
            // Device 1 asks at hour 11; device 0 is cut at hour 11 or 10.
            check.due("hops if the other was cut ahead", book.pass(11), 8 - begin);
            check.due("cut", book.device(0, 9), 1);
            check.due("struck if it was not", book.device(1, 8), begin - 7);
        }
    }

    private static void cuttingAtOnce() {
        VacantAir book = bookWith(40, 12, 0);
        book.addDevice(50, 50, 0);
        book.addStation(50, 50, 0, 0);
        book.lease(0, 0, 50);
        check.due("a notice by an act", book.wake(0), 1);
        check.due("is not cut by it", book.total(5), 1);
        check.due("clear in an hour", book.clearIn(), 1);
        book.pass(1);
        check.due("but in the next hour", book.total(9), 1);
        book.sleep(0);
        book.lease(0, 0, 50);
        book.addEvent(50, 50, 1, 0, 3, 9);
        book.pass(1);
        check.due("not yet", book.total(9), 1);
        book.pass(1);
        check.due("no grace: cut in the hour of the notice", book.total(9), 2);
        check.due("no notice is left", book.total(6), 0);
    }

    private static void askingHours() {
        for (int period = 1; period <= 12; period++) {
            for (int device = 0; device < 16; device += 5) {
                VacantAir book = bookWith(40, period, 20);
                for (int other = 0; other <= device; other++) {
                    book.addDevice(50, 50, 0);
                }
                book.addStation(50, 50, 0, 0);
                book.lease(device, 0, 50);
                book.wake(0);
                int asks = book.device(device, 10);
                check.due("divisible", (asks + device) % period, 0);
                check.due("after now", asks > 0 && asks <= period ? 1 : 0, 1);
                check.due("clear then", book.clearIn(), asks);
                check.due("no hop ahead of it", asks == 1 ? 0 : book.pass(asks - 1), 0);
                check.due("a hop", book.pass(1), 1);
                check.due("asks again", book.device(device, 10), asks + period);
            }
        }
    }

    private static void hopsKeepTheEnd() {
        VacantAir book = bookWith(100, 1, 20);
        book.addDevice(50, 50, 3);
        check.due("lease", book.lease(0, 2, 9), 0);
        for (int channel = 0; channel < 8; channel++) {
            book.addEvent(50, 50 + (channel == 5 ? 3 : 0), 1, channel, 1, 50);
        }
        // On channel 5 the event is 3 away: power 0 is allowed there, power 1 is not.
        check.due("there with power 0", book.channelIn(0, 1), 5);
        check.due("a hop", book.pass(1), 1);
        check.due("power 0 at last", book.device(0, 4), 0);
        check.due("its end stays", book.device(0, 5), 9);
        check.due("no second hop", book.pass(1), 0);
        check.due("never above the power of the lease", neverAbove(), 1);
    }

    /** The device could have power 3, but its lease has power 1. */
    private static int neverAbove() {
        VacantAir book = bookWith(40, 1, 20);
        book.addDevice(50, 50, 3);
        book.lease(0, 1, 9);
        book.addEvent(50, 50, 1, 0, 1, 50);
        book.pass(1);
        check.due("hopped", book.device(0, 7), 1);
        return book.device(0, 4);
    }

    private static void reasonOfTheLatestTry() {
        VacantAir book = new VacantAir();
        book.addDevice(50, 50, 0);
        check.due("at first", book.total(10), 0);
        book.lease(0, 1, 5);
        check.due("refused", book.total(10), 2);
        check.due("a try with an error is none", book.renew(0, 5), NOT_POSSIBLE);
        check.due("it stays", book.total(10), 2);
        book.pass(1);
        book.offer(0, 0);
        check.due("it stays in the hours", book.total(10), 2);
        book.lease(0, 0, 5);
        check.due("not refused", book.total(10), 0);
        book.lease(0, 0, 5);
        check.due("refused", book.total(10), 1);
        book.renew(0, 5);
        check.due("a renewal that is not refused", book.total(10), 0);
    }

    private static void wouldStrikeAndWake() {
        VacantAir book = new VacantAir();
        for (int device = 0; device < 16; device++) {
            book.addDevice(30 + device, 50, 0);
            book.lease(device, 0, 50);
        }
        for (int channel = 0; channel < 8; channel++) {
            book.addStation(45 - channel, 50, channel, channel % 5);
        }
        for (int station = 0; station < 8; station++) {
            int notices = book.total(6);
            int more = book.wouldStrike(station);
            check.due("as it was told", book.wake(station), notices + more);
            int alone = book.station(station, 6);
            check.due("without it", book.sleep(station), notices);
            check.due("on its account alone", alone, more);
            book.wake(station);
        }
    }

    private static void orderOfTies() {
        VacantAir book = new VacantAir();
        for (int device = 0; device < 16; device++) {
            book.addDevice(6 * device, 50, 3);
        }
        for (int device = 15; device >= 0; device--) {
            book.lease(device, 0, 9);
        }
        for (int place = 0; place < 16; place++) {
            check.due("all alike, so by the number", book.next(place), place);
        }
        check.due("a seventeenth", book.next(16), NONE);
        int channel = book.device(15, 3);
        book.addStation(90, 50, channel, 0);
        book.set(0, 0);
        check.due("a notice for the last one", book.wake(0), 1);
        check.due("comes first", book.next(0), 15);
        check.due("then the others", book.next(15), 14);
        book.renew(3, 8);
        check.due("an earlier end ahead of a notice", book.next(0), 3);
        book.giveBack(4);
        book.lease(4, 1, 9);
        check.due("a notice ahead of a greater power", book.next(1), 15);
        check.due("a greater power ahead of a smaller number", book.next(2), 4);
        check.due("then the smaller numbers", book.next(3), 0);
    }
}
