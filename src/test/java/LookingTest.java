/** Promises 20 to 27: station, event, device, power, offer, next, leases, total. */
public final class LookingTest {
    private static final Check check = new Check();
    private static final int NONE = VacantAir.NONE;
    private static final int BAD_INDEX = VacantAir.BAD_INDEX;
    private static final int BAD_VALUE = VacantAir.BAD_VALUE;

    public static void main(String[] args) {
        stationProperties();
        barredOnOneAccount();
        eventProperties();
        deviceProperties();
        nextAsking();
        power();
        powerNearEvents();
        offers();
        offersAndOwnLease();
        freeDistances();
        order();
        orderOfNotices();
        leasesOfChannels();
        totals();
        check.end();
    }

    private static void stationProperties() {
        VacantAir book = new VacantAir();
        book.addStation(12, 34, 5, 3);
        int[] want = {12, 34, 5, 3, 26, 0, 0};
        for (int property = 0; property < 7; property++) {
            check.due("property " + property, book.station(0, property), want[property]);
        }
        check.due("property -1", book.station(0, -1), BAD_VALUE);
        check.due("property 7", book.station(0, 7), BAD_VALUE);
        check.due("station 1", book.station(1, 0), BAD_INDEX);
        check.due("station -1", book.station(-1, 0), BAD_INDEX);
        check.due("station 1, property 7", book.station(1, 7), BAD_INDEX);
        check.due("station max", book.station(Integer.MAX_VALUE, 0), BAD_INDEX);
    }

    private static void barredOnOneAccount() {
        VacantAir book = new VacantAir();
        book.addStation(50, 50, 0, 0);
        book.addStation(50, 51, 0, 0);
        book.addStation(80, 80, 1, 4);
        book.addDevice(50, 50, 1);
        book.addDevice(90, 90, 1);
        book.addDevice(50, 45, 0);
        check.due("lease", book.lease(0, 1, 50), 0);
        check.due("lease", book.lease(1, 1, 50), 1);
        check.due("lease", book.lease(2, 0, 50), 2);
        book.giveBack(2);
        book.giveBack(0);
        check.due("lease on channel 0", book.lease(2, 0, 50), 0);
        book.giveBack(1);
        book.addDevice(80, 70, 0);
        check.due("lease", book.lease(0, 1, 50), 1);
        book.wake(0);
        // Device 2 on its channel, and device 0 on the next one.
        check.due("two on its account", book.station(0, 6), 2);
        check.due("none for one asleep", book.station(1, 6), 0);
        book.wake(1);
        // Device 2 is 5 from station 0 and 6 from station 1.
        check.due("still on its account alone", book.station(0, 6), 1);
        check.due("not on this one's", book.station(1, 6), 0);
        book.addEvent(50, 40, 5, 0, 0, 9);
        check.due("an event bars it, too", book.station(0, 6), 0);
        book.cancel(0);
        check.due("and is cancelled", book.station(0, 6), 1);
        book.giveBack(2);
        check.due("no lease", book.station(0, 6), 0);
    }

    private static void eventProperties() {
        VacantAir book = new VacantAir();
        book.addEvent(12, 34, 30, 5, 2, 4);
        int[] want = {12, 34, 30, 5, 2, 4, 0, 0};
        for (int property = 0; property < 8; property++) {
            check.due("property " + property, book.event(0, property), want[property]);
        }
        check.due("property -1", book.event(0, -1), BAD_VALUE);
        check.due("property 8", book.event(0, 8), BAD_VALUE);
        check.due("event 1", book.event(1, 0), BAD_INDEX);
        check.due("event -1", book.event(-1, 0), BAD_INDEX);
        check.due("event 1, property 8", book.event(1, 8), BAD_INDEX);
        int[] on = {0, 0, 1, 1, 0, 0};
        for (int hour = 0; hour < on.length; hour++) {
            check.due("on at hour " + hour, book.event(0, 7), on[hour]);
            book.pass(1);
        }
        check.due("not cancelled", book.event(0, 6), 0);
        book.addEvent(1, 1, 1, 1, 6, 8);
        check.due("on", book.event(1, 7), 1);
        book.cancel(1);
        check.due("cancelled", book.event(1, 6), 1);
        check.due("not on", book.event(1, 7), 0);
        check.due("its hours stay", book.event(1, 5), 8);
    }

    private static void deviceProperties() {
        VacantAir book = new VacantAir();
        book.addDevice(12, 34, 2);
        check.due("device 1", book.device(1, 0), BAD_INDEX);
        check.due("device -1", book.device(-1, 0), BAD_INDEX);
        check.due("device 1, property 11", book.device(1, 11), BAD_INDEX);
        check.due("property -1", book.device(0, -1), BAD_VALUE);
        check.due("property 11", book.device(0, 11), BAD_VALUE);
        for (int property = 3; property <= 6; property++) {
            check.due("without a lease", book.device(0, property), NONE);
        }
        book.pass(2);
        book.lease(0, 1, 40);
        book.addStation(12, 34, 0, 0);
        int[] free = {12, 34, 2, 0, 1, 42, NONE, 0, 0, 0, 4};
        for (int property = 0; property < free.length; property++) {
            check.due("property " + property, book.device(0, property), free[property]);
        }
        book.wake(0);
        check.due("with a notice", book.device(0, 6), 2);
        book.pass(2);
        int[] hopped = {12, 34, 2, 2, 1, 42, NONE, 1, 0, 0, 8};
        for (int property = 0; property < hopped.length; property++) {
            check.due("hopped, property " + property, book.device(0, property), hopped[property]);
        }
    }

    private static void nextAsking() {
        VacantAir book = new VacantAir();
        for (int device = 0; device < 16; device++) {
            book.addDevice(device, 0, 0);
        }
        for (int period = 1; period <= 12; period++) {
            book.set(1, period);
            book.pass(5);
            int hour = book.total(0);
            for (int device = 0; device < 16; device++) {
                int next = hour + 1;
                while ((next + device) % period != 0) {
                    next++;
                }
                check.due("device " + device + ", period " + period, book.device(device, 10), next);
            }
        }
    }

    private static void power() {
        VacantAir book = new VacantAir();
        int[][] bad = {{-1, 0, 0}, {8, 0, 0}, {0, -1, 0}, {0, 100, 0}, {0, 0, -1}, {0, 0, 100},
            {Integer.MAX_VALUE, 0, 0}};
        for (int[] a : bad) {
            check.due("bad power", book.power(a[0], a[1], a[2]), BAD_VALUE);
        }
        for (int rank = 0; rank < 5; rank++) {
            book.addStation(0, 0, rank, rank);
        }
        book.set(0, 0);
        int[] radii = {4, 9, 16, 26, 40};
        int[] reaches = {1, 3, 6, 10};
        for (int rank = 0; rank < 5; rank++) {
            check.due("asleep", book.power(rank, 0, 0), 3);
            book.wake(rank);
            for (int power = 0; power < 4; power++) {
                int edge = radii[rank] + reaches[power];
                check.due("class " + rank + " at " + edge, book.power(rank, 0, edge), power == 0 ? NONE : power - 1);
                check.due("class " + rank + " past " + edge, book.power(rank, edge + 1, 0), power);
            }
            book.sleep(rank);
        }
    }

    private static void powerNearEvents() {
        VacantAir book = new VacantAir();
        book.addEvent(10, 10, 12, 4, 1, 3);
        check.due("not yet", book.power(4, 10, 10), 3);
        book.pass(1);
        check.due("in it", book.power(4, 10, 10), NONE);
        // 12 + 3 is 15, which is the distance of 9 and 12.
        check.due("at the edge of power 1", book.power(4, 19, 22), 0);
        check.due("a bit farther", book.power(4, 20, 22), 1);
        check.due("other channels", book.power(3, 10, 10), 3);
        check.due("other channels", book.power(5, 10, 10), 3);
        book.pass(1);
        check.due("still in it", book.power(4, 10, 10), NONE);
        book.pass(1);
        check.due("not any more", book.power(4, 10, 10), 3);
    }

    private static void offers() {
        VacantAir book = new VacantAir();
        check.due("device 0", book.offer(0, 0), BAD_INDEX);
        book.addDevice(50, 50, 0);
        book.addStation(50, 50, 0, 0);
        book.addStation(50, 50, 2, 4);
        check.due("device -1", book.offer(-1, 0), BAD_INDEX);
        check.due("device 1, power 4", book.offer(1, 4), BAD_INDEX);
        check.due("power -1", book.offer(0, -1), BAD_VALUE);
        check.due("power 4", book.offer(0, 4), BAD_VALUE);
        check.due("above its greatest", book.offer(0, 3), 0);
        book.wake(0);
        check.due("past the next channel", book.offer(0, 0), 2);
        book.wake(1);
        check.due("past three more", book.offer(0, 0), 4);
        check.due("nothing changes", book.total(5), 0);
        check.due("nor the reason", book.total(10), 0);
    }

    private static void offersAndOwnLease() {
        VacantAir book = new VacantAir();
        book.addDevice(50, 50, 3);
        book.addDevice(90, 90, 3);
        check.due("lease", book.lease(0, 3, 9), 0);
        check.due("its own lease does not count", book.offer(0, 3), 0);
        check.due("for the other it does", book.offer(1, 0), 1);
        for (int device = 2; device < 9; device++) {
            book.addDevice(0, device * 10, 0);
            check.due("lease", book.lease(device, 0, 9), device - 1);
        }
        check.due("its own channel has no other", book.offer(0, 0), 0);
        check.due("the first of all", book.offer(1, 0), 0);
        check.due("lease", book.lease(1, 0, 9), 0);
        check.due("all channels have another", book.offer(0, 0), 0);
        check.due("its own has one other, the first has one", book.offer(2, 0), 1);
    }

    private static void freeDistances() {
        int[] reaches = {1, 3, 6, 10};
        for (int one = 0; one < 4; one++) {
            for (int other = 0; other < 4; other++) {
                int edge = reaches[one] + reaches[other];
                VacantAir book = new VacantAir();
                book.set(0, 100);
                int[] channels = {2, 5, 7};
                for (int station = 0; station < 3; station++) {
                    book.addStation(0, 0, channels[station], 4);
                    book.wake(station);
                }
                book.addDevice(0, 0, 3);
                book.addDevice(edge, 0, 3);
                book.addDevice(0, edge + 1, 3);
                check.due("only channel 0", book.lease(0, one, 9), 0);
                check.due("at " + edge + " not free", book.offer(1, other), NONE);
                check.due("past it free", book.offer(2, other), 0);
            }
        }
    }

    private static void order() {
        VacantAir book = new VacantAir();
        check.due("place -1", book.next(-1), BAD_VALUE);
        check.due("place min", book.next(Integer.MIN_VALUE), BAD_VALUE);
        check.due("no lease", book.next(0), NONE);
        int[] powers = {0, 3, 1, 3, 2, 0};
        int[] hours = {9, 9, 5, 9, 5, 20};
        for (int device = 0; device < 6; device++) {
            book.addDevice(device * 19, 50, 3);
        }
        for (int device = 5; device >= 0; device--) {
            book.lease(device, powers[device], hours[device]);
        }
        int[] want = {4, 2, 1, 3, 0, 5, NONE, NONE};
        for (int place = 0; place < want.length; place++) {
            check.due("place " + place, book.next(place), want[place]);
        }
        check.due("place max", book.next(Integer.MAX_VALUE), NONE);
        book.giveBack(1);
        check.due("the next one moves up", book.next(2), 3);
        check.due("one fewer", book.next(5), NONE);
    }

    private static void orderOfNotices() {
        VacantAir book = new VacantAir();
        book.addDevice(10, 10, 3);
        book.addDevice(50, 50, 3);
        book.addDevice(90, 90, 3);
        book.addStation(90, 90, 2, 0);
        check.due("lease", book.lease(0, 3, 9), 0);
        check.due("lease", book.lease(1, 1, 8), 1);
        check.due("lease", book.lease(2, 0, 9), 2);
        check.due("the greater power first", book.next(1), 0);
        check.due("notice", book.wake(0), 1);
        check.due("the earlier one stays first", book.next(0), 1);
        check.due("the one with a notice", book.next(1), 2);
        check.due("then the greater power", book.next(2), 0);
    }

    private static void leasesOfChannels() {
        VacantAir book = new VacantAir();
        check.due("channel -1", book.leases(-1), BAD_VALUE);
        check.due("channel 8", book.leases(8), BAD_VALUE);
        for (int device = 0; device < 11; device++) {
            book.addDevice(device * 9, 0, 0);
            book.lease(device, 0, 9);
        }
        for (int channel = 0; channel < 8; channel++) {
            check.due("channel " + channel, book.leases(channel), channel < 3 ? 2 : 1);
        }
        book.giveBack(8);
        check.due("one fewer", book.leases(0), 1);
        book.pass(9);
        check.due("none", book.leases(1), 0);
    }

    private static void totals() {
        VacantAir book = new VacantAir();
        check.due("property -1", book.total(-1), BAD_VALUE);
        check.due("property 16", book.total(16), BAD_VALUE);
        book.addStation(10, 10, 0, 0);
        book.addStation(20, 20, 0, 0);
        book.addEvent(1, 1, 1, 1, 1, 2);
        book.addDevice(10, 10, 0);
        book.addDevice(20, 20, 0);
        book.addDevice(30, 30, 0);
        book.lease(0, 0, 50);
        book.giveBack(0);
        book.lease(1, 0, 50);
        book.giveBack(1);
        book.lease(0, 0, 50);
        book.lease(1, 0, 50);
        book.lease(1, 0, 50);
        book.wake(0);
        book.set(0, 41);
        book.set(1, 1);
        book.set(2, 5);
        check.write(book, "abc");
        int[] want = {0, 2, 1, 3, 1, 2, 1, 0, 0, 0, 1, 5, 3, 41, 1, 5};
        for (int property = 0; property < want.length; property++) {
            check.due("property " + property, book.total(property), want[property]);
        }
        book.pass(1);
        check.due("hour", book.total(0), 1);
        check.due("notices", book.total(6), 0);
        check.due("hops", book.total(7), 1);
    }
}
