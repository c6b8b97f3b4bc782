/** Promises 1 to 5: a new object, addStation, addEvent, addDevice, set. */
public final class BuildingTest {
    private static final Check check = new Check();

    public static void main(String[] args) {
        newObject();
        stations();
        stationArguments();
        events();
        eventArguments();
        eventReview();
        devices();
        settings();
        settingReview();
        recording();
        check.end();
    }

    private static void newObject() {
        VacantAir book = new VacantAir();
        int[] totals = {0, 0, 0, 0, 0, 0, 0, 0, 0, 0, 0, 0, 0, 40, 4, 3};
        for (int property = 0; property < totals.length; property++) {
            check.due("new total " + property, book.total(property), totals[property]);
        }
        check.due("new station", book.station(0, 0), VacantAir.BAD_INDEX);
        check.due("new event", book.event(0, 0), VacantAir.BAD_INDEX);
        check.due("new device", book.device(0, 0), VacantAir.BAD_INDEX);
        check.due("new undo", book.undo(), VacantAir.NOT_POSSIBLE);
        check.due("new slot 0", book.restore(0), VacantAir.NOT_POSSIBLE);
        check.due("new slot 1", book.restore(1), VacantAir.NOT_POSSIBLE);
        check.due("new text", book.clearText(), 0);
        check.due("new fault", book.faultPosition(), VacantAir.NONE);
        check.due("new power", book.power(0, 0, 0), 3);
        check.due("new next", book.next(0), VacantAir.NONE);
        check.due("new clear", book.clearIn(), 0);
    }

    private static void stations() {
        VacantAir book = new VacantAir();
        for (int number = 0; number < 8; number++) {
            check.due("station " + number, book.addStation(number, 99 - number, number, number % 5), number);
        }
        int[] radii = {4, 9, 16, 26, 40};
        for (int number = 0; number < 8; number++) {
            check.due("x", book.station(number, 0), number);
            check.due("y", book.station(number, 1), 99 - number);
            check.due("channel", book.station(number, 2), number);
            check.due("class", book.station(number, 3), number % 5);
            check.due("radius", book.station(number, 4), radii[number % 5]);
            check.due("asleep", book.station(number, 5), 0);
        }
        check.due("a ninth station", book.addStation(0, 0, 0, 0), VacantAir.FULL);
        check.due("a bad ninth station", book.addStation(0, 0, 8, 0), VacantAir.BAD_VALUE);
        check.due("stations", book.total(1), 8);
        check.due("awake", book.total(4), 0);
    }

    private static void stationArguments() {
        VacantAir book = new VacantAir();
        int[][] bad = {{-1, 0, 0, 0}, {100, 0, 0, 0}, {0, -1, 0, 0}, {0, 100, 0, 0}, {0, 0, -1, 0},
            {0, 0, 8, 0}, {0, 0, 0, -1}, {0, 0, 0, 5}, {Integer.MAX_VALUE, 0, 0, 0},
            {0, Integer.MIN_VALUE, 0, 0}};
        for (int[] a : bad) {
            check.due("bad station", book.addStation(a[0], a[1], a[2], a[3]), VacantAir.BAD_VALUE);
        }
        check.due("no station", book.total(1), 0);
        check.due("nothing recorded", book.total(11), 0);
        check.due("least station", book.addStation(0, 0, 0, 0), 0);
        check.due("greatest station", book.addStation(99, 99, 7, 4), 1);
    }

    private static void events() {
        VacantAir book = new VacantAir();
        for (int number = 0; number < 8; number++) {
            check.due("event " + number,
                book.addEvent(number, 99 - number, number + 1, 7 - number, number, number + 2), number);
        }
        for (int number = 0; number < 8; number++) {
            int[] want = {number, 99 - number, number + 1, 7 - number, number, number + 2, 0, number == 0 ? 1 : 0};
            for (int property = 0; property < 8; property++) {
                check.due("event property " + property, book.event(number, property), want[property]);
            }
        }
        check.due("a ninth event", book.addEvent(0, 0, 1, 0, 0, 1), VacantAir.FULL);
        check.due("a bad ninth event", book.addEvent(0, 0, 0, 0, 0, 1), VacantAir.BAD_VALUE);
        check.due("events", book.total(2), 8);
    }

    private static void eventArguments() {
        VacantAir book = new VacantAir();
        check.due("pass", book.pass(5), 0);
        int[][] bad = {{-1, 0, 1, 0, 5, 6}, {100, 0, 1, 0, 5, 6}, {0, -1, 1, 0, 5, 6}, {0, 100, 1, 0, 5, 6},
            {0, 0, 0, 0, 5, 6}, {0, 0, 31, 0, 5, 6}, {0, 0, 1, -1, 5, 6}, {0, 0, 1, 8, 5, 6},
            {0, 0, 1, 0, 4, 6}, {0, 0, 1, 0, 9999, 9999}, {0, 0, 1, 0, 9999, 10000}, {0, 0, 1, 0, 5, 5},
            {0, 0, 1, 0, 5, 4}, {0, 0, 1, 0, 5, 10000}, {0, 0, 1, 0, Integer.MAX_VALUE, Integer.MIN_VALUE}};
        for (int[] a : bad) {
            check.due("bad event", book.addEvent(a[0], a[1], a[2], a[3], a[4], a[5]), VacantAir.BAD_VALUE);
        }
        check.due("no event", book.total(2), 0);
        check.due("only the hours recorded", book.total(11), 1);
        check.due("an event from now", book.addEvent(0, 0, 1, 0, 5, 6), 0);
        check.due("the latest event", book.addEvent(99, 99, 30, 7, 9998, 9999), 1);
    }

    private static void eventReview() {
        VacantAir book = new VacantAir();
        book.addDevice(50, 50, 3);
        check.due("lease", book.lease(0, 1, 20), 0);
        check.due("event just too far", book.addEvent(50, 59, 5, 0, 0, 9), 0);
        check.due("no notice", book.total(6), 0);
        check.due("event near enough", book.addEvent(50, 58, 5, 0, 0, 9), 1);
        check.due("notice", book.total(6), 1);
        check.due("given now", book.device(0, 6), 0);
        check.due("undo", book.undo(), 3);
        check.due("event on the next channel", book.addEvent(50, 50, 30, 1, 0, 9), 1);
        check.due("no notice from there", book.total(6), 0);
        check.due("event that begins later", book.addEvent(50, 50, 30, 0, 1, 9), 2);
        check.due("no notice yet", book.total(6), 0);
    }

    private static void devices() {
        VacantAir book = new VacantAir();
        int[][] bad = {{-1, 0, 0}, {100, 0, 0}, {0, -1, 0}, {0, 100, 0}, {0, 0, -1}, {0, 0, 4}};
        for (int[] a : bad) {
            check.due("bad device", book.addDevice(a[0], a[1], a[2]), VacantAir.BAD_VALUE);
        }
        for (int number = 0; number < 16; number++) {
            check.due("device " + number, book.addDevice(99 - number, number * 6, number % 4), number);
        }
        for (int number = 0; number < 16; number++) {
            int none = VacantAir.NONE;
            int asks = number % 4 == 0 ? 4 : 4 - number % 4;
            int[] want = {99 - number, number * 6, number % 4, none, none, none, none, 0, 0, 0, asks};
            for (int property = 0; property < want.length; property++) {
                check.due("device " + number + " property " + property, book.device(number, property), want[property]);
            }
        }
        check.due("a seventeenth device", book.addDevice(0, 0, 0), VacantAir.FULL);
        check.due("a bad seventeenth device", book.addDevice(0, 0, 4), VacantAir.BAD_VALUE);
        check.due("devices", book.total(3), 16);
        check.due("recorded", book.total(11), 5);
    }

    private static void settings() {
        VacantAir book = new VacantAir();
        int[] least = {0, 1, 0};
        int[] greatest = {100, 12, 20};
        int[] first = {40, 4, 3};
        check.due("setting -1", book.set(-1, 1), VacantAir.BAD_INDEX);
        check.due("setting 3", book.set(3, 1), VacantAir.BAD_INDEX);
        check.due("setting 3 with a bad value", book.set(3, -1), VacantAir.BAD_INDEX);
        for (int setting = 0; setting < 3; setting++) {
            check.due("too little", book.set(setting, least[setting] - 1), VacantAir.BAD_VALUE);
            check.due("too much", book.set(setting, greatest[setting] + 1), VacantAir.BAD_VALUE);
            check.due("unchanged", book.total(13 + setting), first[setting]);
            check.due("the least", book.set(setting, least[setting]), first[setting]);
            check.due("the greatest", book.set(setting, greatest[setting]), least[setting]);
            check.due("changed", book.total(13 + setting), greatest[setting]);
        }
    }

    private static void settingReview() {
        VacantAir book = new VacantAir();
        book.addStation(50, 50, 1, 1);
        book.addDevice(50, 54, 0);
        book.wake(0);
        // On channel 0 the radius is 9 * 40 / 100 = 3, and the reach is 1: a distance of 4 is in it.
        check.due("not channel 0", book.lease(0, 0, 20), 3);
        book.giveBack(0);
        book.set(0, 33);
        check.due("channel 0 with radius 2", book.lease(0, 0, 20), 0);
        check.due("one more per cent", book.set(0, 34), 33);
        check.due("a notice by a setting", book.total(6), 1);
        check.due("and back", book.set(0, 33), 34);
        check.due("the notice is lost", book.total(6), 0);
    }

    private static void recording() {
        VacantAir book = new VacantAir();
        book.addStation(1, 2, 3, 4);
        book.addEvent(1, 2, 3, 4, 5, 6);
        book.addDevice(1, 2, 3);
        book.set(2, 20);
        check.due("four recorded", book.total(11), 4);
        check.due("undo set", book.undo(), 3);
        check.due("grace", book.total(15), 3);
        check.due("undo device", book.undo(), 2);
        check.due("devices", book.total(3), 0);
        check.due("undo event", book.undo(), 1);
        check.due("events", book.total(2), 0);
        check.due("undo station", book.undo(), 0);
        check.due("stations", book.total(1), 0);
    }
}
