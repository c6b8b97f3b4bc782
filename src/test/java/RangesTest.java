/**
 * For each argument of each call: its least and its greatest value, what lies beyond them, which
 * error comes first, and that a call that reports an error changes nothing.
 */
public final class RangesTest {
    private static final Check check = new Check();
    private static final int BAD_INDEX = VacantAir.BAD_INDEX;
    private static final int BAD_VALUE = VacantAir.BAD_VALUE;
    private static final int NOT_POSSIBLE = VacantAir.NOT_POSSIBLE;
    private static final int FULL = VacantAir.FULL;
    private static final int REFUSED = VacantAir.REFUSED;

    /** A call in which one argument is left open. */
    private interface Call {
        int on(VacantAir book, int value);
    }

    public static void main(String[] args) {
        stationArguments();
        eventArguments();
        eventHours();
        deviceArguments();
        settingArguments();
        hoursOfActs();
        powersOfActs();
        bytes();
        slots();
        properties();
        placesLookedAt();
        channelsLookedAt();
        powersLookedAt();
        numbersInSomeBook();
        numbersInAFullBook();
        numbersInAnEmptyBook();
        orderOfErrors();
        orderOfErrorsInAFullBook();
        notPossible();
        errorsKeepHistorySlotsAndText();
        refusalsSetTheReasonAlone();
        check.end();
    }

    /** At hour 7, with three of each thing, a notice, a reason, and a text with a fault. */
    private static VacantAir someBook() {
        VacantAir book = new VacantAir();
        for (int number = 0; number < 3; number++) {
            book.addDevice(20 + 30 * number, 50, 3);
            book.addStation(20 + 30 * number, 50, number, 1);
            book.addEvent(20 + 30 * number, 90, 9, number, 2 + number, 40);
        }
        book.lease(0, 3, 60);
        book.lease(1, 1, 60);
        book.pass(7);
        book.wake(1);
        book.lease(1, 1, 60);
        check.write(book, "t1;w");
        check.due("a notice", book.total(6), 1);
        check.due("a reason", book.total(10), 1);
        check.due("hour 7", book.total(0), 7);
        return book;
    }

    /** With all the stations, events and devices that there can be, and a lease for each device. */
    private static VacantAir fullBook() {
        VacantAir book = new VacantAir();
        for (int number = 0; number < 16; number++) {
            book.addDevice(6 * number, 99, 3);
            book.lease(number, 0, 50);
        }
        for (int number = 0; number < 8; number++) {
            book.addStation(99 - number, 0, number, 0);
            book.addEvent(number, 0, 1, number, 0, 50);
        }
        check.due("leases in a full book", book.total(5), 16);
        return book;
    }

    private static void holds(String what, boolean so) {
        check.due(what, so ? 1 : 0, 1);
    }

    private static void range(String what, int least, int greatest, int error, Call call) {
        range(what, someBook(), least, greatest, error, call);
    }

    private static void range(String what, VacantAir book, int least, int greatest, int error, Call call) {
        refused(what, book, error, call, least - 1, greatest + 1, Integer.MIN_VALUE, Integer.MAX_VALUE);
        if (least <= greatest) {
            taken(what + " " + least, call.on(book, least));
            taken(what + " " + greatest, call.on(book, greatest));
        }
    }

    private static void taken(String what, int answer) {
        holds(what + " is in its range", answer != BAD_INDEX && answer != BAD_VALUE);
    }

    private static void refused(String what, VacantAir book, int error, Call call, int... values) {
        int[] before = Look.at(book);
        int history = book.total(11);
        for (int value : values) {
            check.due(what + " " + value, call.on(book, value), error);
        }
        holds(what + " beyond its range changes nothing", Look.same(book, before));
        check.due(what + " beyond its range is not recorded", book.total(11), history);
    }

    private static void stationArguments() {
        range("addStation x", 0, 99, BAD_VALUE, (book, v) -> book.addStation(v, 5, 5, 2));
        range("addStation y", 0, 99, BAD_VALUE, (book, v) -> book.addStation(5, v, 5, 2));
        range("addStation channel", 0, 7, BAD_VALUE, (book, v) -> book.addStation(5, 5, v, 2));
        range("addStation class", 0, 4, BAD_VALUE, (book, v) -> book.addStation(5, 5, 5, v));
    }

    private static void eventArguments() {
        range("addEvent x", 0, 99, BAD_VALUE, (book, v) -> book.addEvent(v, 5, 5, 2, 9, 12));
        range("addEvent y", 0, 99, BAD_VALUE, (book, v) -> book.addEvent(5, v, 5, 2, 9, 12));
        range("addEvent radius", 1, 30, BAD_VALUE, (book, v) -> book.addEvent(5, 5, v, 2, 9, 12));
        range("addEvent channel", 0, 7, BAD_VALUE, (book, v) -> book.addEvent(5, 5, 5, v, 9, 12));
    }

    private static void eventHours() {
        range("addEvent from", 7, 9998, BAD_VALUE, (book, v) -> book.addEvent(5, 5, 5, 2, v, 9999));
        range("addEvent to", 10, 9999, BAD_VALUE, (book, v) -> book.addEvent(5, 5, 5, 2, 9, v));
        range("addEvent from 9998 to", 9999, 9999, BAD_VALUE, (book, v) -> book.addEvent(5, 5, 5, 2, 9998, v));
        VacantAir book = someBook();
        refused("addEvent from 9999 to", book, BAD_VALUE, (b, v) -> b.addEvent(5, 5, 5, 2, 9999, v),
            9999, 10000, Integer.MIN_VALUE, Integer.MAX_VALUE);
        refused("addEvent in the most hours", book, BAD_VALUE, (b, v) -> b.addEvent(5, 5, 5, 2, v, v + 1),
            Integer.MIN_VALUE, Integer.MAX_VALUE, -1, 0, 6, 9999);
    }

    private static void deviceArguments() {
        range("addDevice x", 0, 99, BAD_VALUE, (book, v) -> book.addDevice(v, 5, 2));
        range("addDevice y", 0, 99, BAD_VALUE, (book, v) -> book.addDevice(5, v, 2));
        range("addDevice power", 0, 3, BAD_VALUE, (book, v) -> book.addDevice(5, 5, v));
    }

    private static void settingArguments() {
        range("setting", 0, 2, BAD_INDEX, (book, v) -> book.set(v, 1));
        range("adjacent percentage", 0, 100, BAD_VALUE, (book, v) -> book.set(0, v));
        range("period", 1, 12, BAD_VALUE, (book, v) -> book.set(1, v));
        range("grace", 0, 20, BAD_VALUE, (book, v) -> book.set(2, v));
    }

    private static void hoursOfActs() {
        range("lease hours", 1, 99, BAD_VALUE, (book, v) -> book.lease(2, 0, v));
        range("renew hours", 1, 99, BAD_VALUE, (book, v) -> book.renew(0, v));
        range("pass hours", 1, 99, BAD_VALUE, (book, v) -> book.pass(v));
        range("channelIn hours", 0, 99, BAD_VALUE, (book, v) -> book.channelIn(0, v));
        VacantAir book = someBook();
        check.due("renew for an hour", book.renew(0, 1), 8);
        check.due("renew for 99 hours", book.renew(0, 99), 106);
        check.due("lease for an hour", book.lease(2, 0, 1), 2);
        check.due("ends at the next hour", book.device(2, 5), 8);
        book.pass(1);
        check.due("it ended", book.device(2, 5), VacantAir.NONE);
        check.due("and can't be renewed", book.renew(2, 1), NOT_POSSIBLE);
        check.due("lease for 99 hours", book.lease(2, 0, 99), 2);
        check.due("ends 99 hours later", book.device(2, 5), 107);
    }

    private static void powersOfActs() {
        range("lease power", 0, 3, BAD_VALUE, (book, v) -> book.lease(2, v, 9));
        for (int power = 0; power < 4; power++) {
            VacantAir book = new VacantAir();
            book.addDevice(0, 0, power);
            if (power < 3) {
                check.due("a power above the greatest", book.lease(0, power + 1, 9), REFUSED);
                check.due("reason 2", book.total(10), 2);
            }
            check.due("the greatest power", book.lease(0, power, 9), 0);
            check.due("its power", book.device(0, 4), power);
        }
    }

    private static void bytes() {
        range("append", 32, 126, BAD_VALUE, (book, v) -> book.append(v));
        VacantAir book = new VacantAir();
        for (int b = 1; b <= 80; b++) {
            check.due("append", book.append('w'), b);
        }
        refused("append to a full text", book, FULL, (full, v) -> full.append(v), 32, 126, 'w');
        refused("a bad byte to a full text", book, BAD_VALUE, (full, v) -> full.append(v), 31, 127);
        check.due("the full text is emptied", book.clearText(), 80);
        check.due("and empty", book.clearText(), 0);
        check.due("and has room", book.append('w'), 1);
    }

    private static void slots() {
        range("save", 0, 1, BAD_INDEX, (book, v) -> book.save(v));
        VacantAir book = someBook();
        book.save(0);
        book.save(1);
        range("restore", book, 0, 1, BAD_INDEX, (both, v) -> both.restore(v));
        refused("restore from an empty slot", someBook(), NOT_POSSIBLE, (none, v) -> none.restore(v), 0, 1);
        book = someBook();
        book.save(1);
        refused("restore from the other slot", book, NOT_POSSIBLE, (one, v) -> one.restore(v), 0);
    }

    private static void properties() {
        range("station property", 0, 6, BAD_VALUE, (book, v) -> book.station(1, v));
        range("event property", 0, 7, BAD_VALUE, (book, v) -> book.event(1, v));
        range("device property", 0, 10, BAD_VALUE, (book, v) -> book.device(2, v));
        range("total property", 0, 15, BAD_VALUE, (book, v) -> book.total(v));
    }

    private static void placesLookedAt() {
        range("power x", 0, 99, BAD_VALUE, (book, v) -> book.power(0, v, 50));
        range("power y", 0, 99, BAD_VALUE, (book, v) -> book.power(0, 50, v));
        range("allowedFrom x", 0, 99, BAD_VALUE, (book, v) -> book.allowedFrom(0, v, 50, 0));
        range("allowedFrom y", 0, 99, BAD_VALUE, (book, v) -> book.allowedFrom(0, 50, v, 0));
        refused("next", someBook(), BAD_VALUE, (book, v) -> book.next(v), -1, Integer.MIN_VALUE);
        refused("next", someBook(), VacantAir.NONE, (book, v) -> book.next(v), 2, 3, 16, Integer.MAX_VALUE);
        refused("next", new VacantAir(), VacantAir.NONE, (book, v) -> book.next(v), 0, 1, Integer.MAX_VALUE);
    }

    private static void channelsLookedAt() {
        range("power channel", 0, 7, BAD_VALUE, (book, v) -> book.power(v, 5, 5));
        range("leases channel", 0, 7, BAD_VALUE, (book, v) -> book.leases(v));
        range("vacant channel", 0, 7, BAD_VALUE, (book, v) -> book.vacant(v, 0));
        range("allowedFrom channel", 0, 7, BAD_VALUE, (book, v) -> book.allowedFrom(v, 5, 5, 0));
    }

    private static void powersLookedAt() {
        range("offer power", 0, 3, BAD_VALUE, (book, v) -> book.offer(0, v));
        range("vacant power", 0, 3, BAD_VALUE, (book, v) -> book.vacant(0, v));
        range("allowedFrom power", 0, 3, BAD_VALUE, (book, v) -> book.allowedFrom(0, 5, 5, v));
    }

    /** The greatest number of each kind is -1 if there is none. */
    private static void numbers(VacantAir book, int stations, int events, int devices) {
        range("station", book, 0, stations, BAD_INDEX, (b, v) -> b.station(v, 6));
        range("wouldStrike", book, 0, stations, BAD_INDEX, (b, v) -> b.wouldStrike(v));
        range("wake", book, 0, stations, BAD_INDEX, (b, v) -> b.wake(v));
        range("sleep", book, 0, stations, BAD_INDEX, (b, v) -> b.sleep(v));
        range("event", book, 0, events, BAD_INDEX, (b, v) -> b.event(v, 7));
        range("cancel", book, 0, events, BAD_INDEX, (b, v) -> b.cancel(v));
        range("device", book, 0, devices, BAD_INDEX, (b, v) -> b.device(v, 10));
        range("offer", book, 0, devices, BAD_INDEX, (b, v) -> b.offer(v, 0));
        range("channelIn", book, 0, devices, BAD_INDEX, (b, v) -> b.channelIn(v, 1));
        range("renew", book, 0, devices, BAD_INDEX, (b, v) -> b.renew(v, 1));
        range("giveBack", book, 0, devices, BAD_INDEX, (b, v) -> b.giveBack(v));
        range("lease", book, 0, devices, BAD_INDEX, (b, v) -> b.lease(v, 0, 1));
    }

    private static void numbersInSomeBook() {
        numbers(someBook(), 2, 2, 2);
    }

    private static void numbersInAFullBook() {
        VacantAir book = fullBook();
        for (int place = 0; place < 16; place++) {
            check.due("place " + place + " of 16", book.next(place), place);
        }
        check.due("place 16 of 16", book.next(16), VacantAir.NONE);
        check.due("nobody struck", book.wouldStrike(7), 0);
        check.due("nobody barred", book.station(7, 6), 0);
        numbers(book, 7, 7, 15);
    }

    private static void numbersInAnEmptyBook() {
        numbers(new VacantAir(), -1, -1, -1);
    }

    private static void orderOfErrors() {
        VacantAir book = someBook();
        int[] before = Look.at(book);
        check.due("set: setting, then value", book.set(3, 999), BAD_INDEX);
        check.due("lease: device, then power", book.lease(3, 4, 9), BAD_INDEX);
        check.due("lease: device, then hours", book.lease(3, 0, 0), BAD_INDEX);
        check.due("lease: power, then reason 1", book.lease(0, 4, 9), BAD_VALUE);
        check.due("lease: hours, then reason 1", book.lease(0, 0, 100), BAD_VALUE);
        check.due("renew: device, then hours", book.renew(3, 0), BAD_INDEX);
        check.due("renew: hours, then no lease", book.renew(2, 0), BAD_VALUE);
        check.due("renew: hours, then the notice", book.renew(1, 100), BAD_VALUE);
        check.due("station: number, then property", book.station(3, 7), BAD_INDEX);
        check.due("event: number, then property", book.event(3, 8), BAD_INDEX);
        check.due("device: number, then property", book.device(3, 11), BAD_INDEX);
        check.due("device: property, then no lease", book.device(2, -1), BAD_VALUE);
        check.due("power: place, then none", book.power(1, 50, 100), BAD_VALUE);
        check.due("offer: device, then power", book.offer(3, 4), BAD_INDEX);
        check.due("channelIn: device, then hours", book.channelIn(3, 100), BAD_INDEX);
        check.due("channelIn: hours, then no lease", book.channelIn(2, 100), BAD_VALUE);
        check.due("allowedFrom: power, then none", book.allowedFrom(1, 50, 50, 4), BAD_VALUE);
        holds("none of these changes anything", Look.same(book, before));
        VacantAir late = lateBook();
        check.due("pass: hours, then the last hour", late.pass(100), BAD_VALUE);
        check.due("pass: the last hour", late.pass(1), NOT_POSSIBLE);
        check.due("addEvent: no hour is left", late.addEvent(5, 5, 5, 5, 9999, 10000), BAD_VALUE);
    }

    private static VacantAir lateBook() {
        VacantAir book = new VacantAir();
        for (int i = 0; i < 101; i++) {
            book.pass(99);
        }
        check.due("the last hour", book.total(0), 9999);
        return book;
    }

    private static void orderOfErrorsInAFullBook() {
        refused("a ninth station in a channel", fullBook(), BAD_VALUE, (b, v) -> b.addStation(0, 0, v, 0), -1, 8);
        refused("a ninth station", fullBook(), FULL, (b, v) -> b.addStation(0, 0, v, 0), 0, 7);
        refused("a ninth event in a channel", fullBook(), BAD_VALUE, (b, v) -> b.addEvent(0, 0, 1, v, 0, 1), -1, 8);
        refused("a ninth event", fullBook(), FULL, (b, v) -> b.addEvent(0, 0, 1, v, 0, 1), 0, 7);
        refused("a seventeenth device of a power", fullBook(), BAD_VALUE, (b, v) -> b.addDevice(0, 0, v), -1, 4);
        refused("a seventeenth device", fullBook(), FULL, (b, v) -> b.addDevice(0, 0, v), 0, 3);
        VacantAir book = fullBook();
        for (int i = 0; i < 8; i++) {
            check.due("cancel event " + i, book.cancel(i), 0);
        }
        check.due("cancelled events keep their room", book.addEvent(0, 0, 1, 0, 0, 1), FULL);
        book.pass(60);
        check.due("so do those that ended", book.addEvent(0, 0, 1, 0, 60, 61), FULL);
        book = fullBook();
        check.due("undo", book.undo(), 4);
        check.due("undo gives room", book.addEvent(0, 0, 1, 0, 0, 1), 7);
        check.due("and no more", book.addEvent(0, 0, 1, 0, 0, 1), FULL);
    }

    private static void notPossible() {
        VacantAir book = someBook();
        book.addEvent(5, 5, 5, 5, 7, 8);
        book.cancel(2);
        refused("wake one that is awake", book, NOT_POSSIBLE, (b, v) -> b.wake(v), 1);
        refused("wouldStrike of one that is awake", book, NOT_POSSIBLE, (b, v) -> b.wouldStrike(v), 1);
        refused("sleep of one that is asleep", book, NOT_POSSIBLE, (b, v) -> b.sleep(v), 0, 2);
        refused("cancel a cancelled event", book, NOT_POSSIBLE, (b, v) -> b.cancel(v), 2);
        refused("renew without a lease", book, NOT_POSSIBLE, (b, v) -> b.renew(v, 5), 2);
        refused("give back without a lease", book, NOT_POSSIBLE, (b, v) -> b.giveBack(v), 2);
        refused("run with a fault", book, NOT_POSSIBLE, (b, v) -> b.run(), 0);
        refused("undo with no history", new VacantAir(), NOT_POSSIBLE, (b, v) -> b.undo(), 0);
        book.pass(1);
        refused("cancel an event that ends now", book, NOT_POSSIBLE, (b, v) -> b.cancel(v), 3);
        refused("pass beyond the last hour", lateBook(), NOT_POSSIBLE, (b, v) -> b.pass(v), 1, 2, 99);
    }

    /** Calls with an error of each kind, on a book as someBook makes it. */
    private static void callWithErrors(VacantAir book) {
        int[] answers = {book.addStation(0, 0, 8, 0), book.addEvent(0, 0, 0, 0, 9, 10), book.addDevice(0, 0, 4),
            book.set(3, 0), book.set(1, 0), book.wake(1), book.wake(9), book.sleep(0), book.sleep(9), book.cancel(9),
            book.lease(9, 0, 1), book.lease(0, 0, 0), book.lease(0, 0, 1), book.renew(9, 1), book.renew(0, 0),
            book.renew(2, 1), book.renew(1, 1), book.giveBack(9), book.giveBack(2), book.pass(0), book.append(0),
            book.run(), book.save(2), book.restore(2), book.restore(0)};
        for (int answer : answers) {
            holds("an error", answer <= BAD_INDEX && answer >= REFUSED);
        }
    }

    private static void errorsKeepHistorySlotsAndText() {
        VacantAir book = someBook();
        VacantAir twin = someBook();
        book.save(1);
        twin.save(1);
        callWithErrors(book);
        check.due("the fault stays", book.faultPosition(), 4);
        check.due("the text stays", book.total(12), 4);
        for (int left = 4; left >= 0; left--) {
            check.due("undo", book.undo(), left);
            check.due("undo of the twin", twin.undo(), left);
            holds("the history stays", Look.same(book, Look.at(twin)));
        }
        check.due("no more history", book.undo(), NOT_POSSIBLE);
        check.due("restore", book.restore(1), twin.restore(1));
        holds("the slot stays", Look.same(book, Look.at(twin)));
    }

    private static void refusalsSetTheReasonAlone() {
        VacantAir book = someBook();
        int[] before = Look.at(book);
        check.due("a notice", book.renew(1, 5), REFUSED);
        check.due("reason 5", book.total(10), 5);
        check.due("a lease", book.lease(1, 1, 5), REFUSED);
        check.due("reason 1", book.total(10), 1);
        holds("nothing but the reason", Look.same(book, before));
        check.due("renew", book.renew(0, 60), 67);
        check.due("not refused", book.total(10), 0);
        check.due("undo", book.undo(), 4);
        holds("the reason comes back", Look.same(book, before));
    }
}
