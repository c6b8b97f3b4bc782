/** A spectrum book for vacant television channels. */
public final class VacantAir {
    public static final int BAD_INDEX = -1;
    public static final int BAD_VALUE = -2;
    public static final int NOT_POSSIBLE = -3;
    public static final int FULL = -4;
    public static final int REFUSED = -5;
    public static final int NONE = -6;

    private static final int MOST_STATIONS = 8;
    private static final int MOST_EVENTS = 8;
    private static final int MOST_DEVICES = 16;
    private static final int MOST_BYTES = 80;
    private static final int MOST_KEPT = 5;
    private static final int CHANNELS = 8;
    private static final int SLOTS = 2;
    private static final int SETTINGS = 3;

    private static final int LAST_COORDINATE = 99;
    private static final int GREATEST_CLASS = 4;
    private static final int GREATEST_RADIUS = 30;
    private static final int GREATEST_POWER = 3;
    private static final int LAST_HOUR = 9999;
    private static final int MOST_HOURS = 99;
    private static final int LONGEST_LOOK = 50;
    private static final int FIRST_SAMPLE = 5;
    private static final int SAMPLE_STEP = 10;

    private static final int ADJACENT = 0;
    private static final int PERIOD = 1;
    private static final int GRACE = 2;

    private static final int NOT_REFUSED = 0;
    private static final int HAS_A_LEASE = 1;
    private static final int TOO_MUCH_POWER = 2;
    private static final int NOWHERE_ALLOWED = 3;
    private static final int NO_OFFER = 4;
    private static final int HAS_A_NOTICE = 5;

    private static final int NO_LEASE = -1;
    private static final int NO_NOTICE = -1;
    private static final int NOT_BARRED = -1;

    private static final int[] RADII = {4, 9, 16, 26, 40};
    private static final int[] REACHES = {1, 3, 6, 10};
    private static final int[] FIRST_VALUES = {40, 4, 3};
    private static final int[] LEAST_VALUES = {0, 1, 0};
    private static final int[] GREATEST_VALUES = {100, 12, 20};

    private final State present;
    /** What could be is played here, so that the present state stays as it is. */
    private final State trial;
    private final History history;
    private final State[] slots;
    private final boolean[] slotHolds;
    private final ActText text;

    /** Creates a book with everything as at first. */
    public VacantAir() {
        present = new State();
        trial = new State();
        history = new History();
        slots = new State[SLOTS];
        for (int slot = 0; slot < SLOTS; slot++) {
            slots[slot] = new State();
        }
        slotHolds = new boolean[SLOTS];
        text = new ActText();
    }

    // ---- stations, events, devices, settings

    /** Adds a station, which is asleep, and returns its number. */
    public int addStation(int x, int y, int channel, int power) {
        history.note(present);
        return recorded(present.putStation(x, y, channel, power));
    }

    /** Adds an event and returns its number. */
    public int addEvent(int x, int y, int radius, int channel, int from, int to) {
        history.note(present);
        return recorded(present.putEvent(x, y, radius, channel, from, to));
    }

    /** Adds a device and returns its number. */
    public int addDevice(int x, int y, int power) {
        history.note(present);
        return recorded(present.putDevice(x, y, power));
    }

    /** Sets a setting and returns the value before. */
    public int set(int setting, int value) {
        history.note(present);
        return recorded(present.change(setting, value));
    }

    // ---- acts

    /** Wakes a station and returns the number of leases with a notice. */
    public int wake(int station) {
        history.note(present);
        return recorded(present.turnStation(station, 1));
    }

    /** Sends a station to sleep and returns the number of leases with a notice. */
    public int sleep(int station) {
        history.note(present);
        return recorded(present.turnStation(station, 0));
    }

    /** Cancels an event and returns the number of leases with a notice. */
    public int cancel(int event) {
        history.note(present);
        return recorded(present.callOff(event));
    }

    /** Makes a new lease and returns its channel. */
    public int lease(int device, int power, int hours) {
        history.note(present);
        return recorded(present.makeLease(device, power, hours));
    }

    /** Renews a lease and returns the hour at which it ends then. */
    public int renew(int device, int hours) {
        history.note(present);
        return recorded(present.prolongLease(device, hours));
    }

    /** Gives a lease back and returns the number of leases then. */
    public int giveBack(int device) {
        history.note(present);
        return recorded(present.dropLease(device));
    }

    /** Lets hours pass and returns the number of hops in them. */
    public int pass(int hours) {
        history.note(present);
        return recorded(present.passHours(hours));
    }

    // ---- the text

    /** Appends a byte to the text and returns its length then. */
    public int append(int b) {
        return text.add(b);
    }

    /** Empties the text and returns the length that it had. */
    public int clearText() {
        return text.empty();
    }

    /** Returns the fault position of the text, or NONE. */
    public int faultPosition() {
        return text.findFault();
    }

    /** Carries out the acts of the text and returns how many went without an error. */
    public int run() {
        if (text.findFault() != NONE) {
            return NOT_POSSIBLE;
        }
        history.note(present);
        int done = 0;
        int answer = 0;
        text.startReading();
        for (int act = 0; act < MOST_BYTES && text.hasMore() && answer >= 0; act++) {
            text.readAct();
            switch (text.kind) {
                case 'l':
                    answer = present.makeLease(text.first, text.second, text.third);
                    break;
                case 'g':
                    answer = present.dropLease(text.first);
                    break;
                case 'w':
                    answer = present.turnStation(text.first, 1);
                    break;
                case 'z':
                    answer = present.turnStation(text.first, 0);
                    break;
                default:
                    answer = present.passHours(text.first);
                    break;
            }
            if (answer >= 0) {
                done++;
            }
        }
        return recorded(done);
    }

    // ---- history and slots

    /** Makes the latest state of the history the present one and returns how many are left. */
    public int undo() {
        if (history.count == 0) {
            return NOT_POSSIBLE;
        }
        history.takeLatest(present);
        return history.count;
    }

    /** Keeps a copy of the present state in a slot and returns the hour. */
    public int save(int slot) {
        if (isOutside(slot, 0, SLOTS - 1)) {
            return BAD_INDEX;
        }
        slots[slot].copyFrom(present);
        slotHolds[slot] = true;
        return present.hour;
    }

    /** Makes a copy of a slot's state the present one and returns the hour. */
    public int restore(int slot) {
        if (isOutside(slot, 0, SLOTS - 1)) {
            return BAD_INDEX;
        }
        if (!slotHolds[slot]) {
            return NOT_POSSIBLE;
        }
        history.note(present);
        present.copyFrom(slots[slot]);
        return recorded(present.hour);
    }

    // ---- looking

    /** Returns a property of a station. */
    public int station(int station, int property) {
        if (!present.stations.has(station)) {
            return BAD_INDEX;
        }
        if (isOutside(property, 0, 6)) {
            return BAD_VALUE;
        }
        if (property == 6) {
            return barredAlone(station);
        }
        return present.stations.tell(station, property);
    }

    /** Returns a property of an event. */
    public int event(int event, int property) {
        if (!present.events.has(event)) {
            return BAD_INDEX;
        }
        if (isOutside(property, 0, 7)) {
            return BAD_VALUE;
        }
        return present.events.tell(event, property, present.hour);
    }

    /** Returns a property of a device. */
    public int device(int device, int property) {
        if (!present.devices.has(device)) {
            return BAD_INDEX;
        }
        if (isOutside(property, 0, 10)) {
            return BAD_VALUE;
        }
        if (property == 10) {
            return present.nextAsking(device);
        }
        return present.devices.tell(device, property);
    }

    /** Returns the greatest power that is allowed on a channel at a place now. */
    public int power(int channel, int x, int y) {
        if (isOutside(channel, 0, CHANNELS - 1) || isNoPlace(x, y)) {
            return BAD_VALUE;
        }
        for (int power = GREATEST_POWER; power >= 0; power--) {
            if (present.isAllowed(channel, power, x, y)) {
                return power;
            }
        }
        return NONE;
    }

    /** Returns the channel of the offer for a device with a power. */
    public int offer(int device, int power) {
        if (!present.devices.has(device)) {
            return BAD_INDEX;
        }
        if (isOutside(power, 0, GREATEST_POWER)) {
            return BAD_VALUE;
        }
        return present.findOffer(device, power);
    }

    /** Returns the device whose lease has a place in the order of the leases. */
    public int next(int place) {
        if (place < 0) {
            return BAD_VALUE;
        }
        return present.devices.atPlace(place);
    }

    /** Returns how many leases of a channel there are. */
    public int leases(int channel) {
        if (isOutside(channel, 0, CHANNELS - 1)) {
            return BAD_VALUE;
        }
        return present.devices.countOn(channel);
    }

    /** Returns a number. */
    public int total(int property) {
        if (isOutside(property, 0, 15)) {
            return BAD_VALUE;
        }
        if (property == 11) {
            return history.count;
        }
        if (property == 12) {
            return text.length;
        }
        return present.tellTotal(property);
    }

    // ---- what could be, which changes nothing

    /** Counts the sampled places at which a power is allowed on a channel now. */
    public int vacant(int channel, int power) {
        if (isOutside(channel, 0, CHANNELS - 1) || isOutside(power, 0, GREATEST_POWER)) {
            return BAD_VALUE;
        }
        int places = 0;
        for (int x = FIRST_SAMPLE; x <= LAST_COORDINATE; x += SAMPLE_STEP) {
            for (int y = FIRST_SAMPLE; y <= LAST_COORDINATE; y += SAMPLE_STEP) {
                if (present.isAllowed(channel, power, x, y)) {
                    places++;
                }
            }
        }
        return places;
    }

    /** Returns the first hour, from now on, at which a power would be allowed. */
    public int allowedFrom(int channel, int x, int y, int power) {
        if (isOutside(channel, 0, CHANNELS - 1) || isNoPlace(x, y)
                || isOutside(power, 0, GREATEST_POWER)) {
            return BAD_VALUE;
        }
        if (present.isAllowed(channel, power, x, y)) {
            return present.hour;
        }
        // Only the end of an event can lift a bar, so no other hours need a look.
        trial.copyFrom(present);
        int first = NONE;
        for (int event = 0; event < present.events.count; event++) {
            int end = present.events.to[event];
            trial.hour = end;
            if (end > present.hour && (first == NONE || end < first)
                    && trial.isAllowed(channel, power, x, y)) {
                first = end;
            }
        }
        return first;
    }

    /** Tells how many leases would get a notice if a station woke now. */
    public int wouldStrike(int station) {
        if (!present.stations.has(station)) {
            return BAD_INDEX;
        }
        if (present.stations.awake[station] == 1) {
            return NOT_POSSIBLE;
        }
        trial.copyFrom(present);
        trial.turnStation(station, 1);
        int struck = 0;
        for (int device = 0; device < present.devices.count; device++) {
            if (trial.devices.hasNotice(device) && !present.devices.hasNotice(device)) {
                struck++;
            }
        }
        return struck;
    }

    /** Tells the channel that a device would have after some hours. */
    public int channelIn(int device, int hours) {
        if (!present.devices.has(device)) {
            return BAD_INDEX;
        }
        if (isOutside(hours, 0, MOST_HOURS)) {
            return BAD_VALUE;
        }
        trial.copyFrom(present);
        for (int hour = 0; hour < hours; hour++) {
            trial.passOneHour();
        }
        return trial.devices.hasLease(device) ? trial.devices.channel[device] : NONE;
    }

    /** Tells within how many hours no lease would have a notice any more. */
    public int clearIn() {
        trial.copyFrom(present);
        for (int hours = 0; hours <= LONGEST_LOOK; hours++) {
            if (trial.devices.countNotices() == 0) {
                return hours;
            }
            trial.passOneHour();
        }
        return NONE;
    }

    // ---- what the calls share

    /** The state ahead of the call has been noted; it is kept only if the call had no error. */
    private int recorded(int answer) {
        if (answer >= 0) {
            history.keepNoted();
        }
        return answer;
    }

    private int barredAlone(int station) {
        trial.copyFrom(present);
        trial.stations.awake[station] = 0;
        int barred = 0;
        for (int device = 0; device < present.devices.count; device++) {
            if (present.devices.hasLease(device) && !present.leaseIsAllowed(device)
                    && trial.leaseIsAllowed(device)) {
                barred++;
            }
        }
        return barred;
    }

    private static boolean isOutside(int value, int least, int greatest) {
        return value < least || value > greatest;
    }

    private static boolean isNoPlace(int x, int y) {
        return isOutside(x, 0, LAST_COORDINATE) || isOutside(y, 0, LAST_COORDINATE);
    }

    private static boolean isWithin(int dx, int dy, int distance) {
        return dx * dx + dy * dy <= distance * distance;
    }

    private static void copyRow(int[] from, int[] to) {
        System.arraycopy(from, 0, to, 0, Math.min(from.length, to.length));
    }

    private static final class Stations {
        final int[] x = new int[MOST_STATIONS];
        final int[] y = new int[MOST_STATIONS];
        final int[] channel = new int[MOST_STATIONS];
        final int[] powerClass = new int[MOST_STATIONS];
        final int[] awake = new int[MOST_STATIONS];
        int count;

        boolean has(int station) {
            return station >= 0 && station < count;
        }

        int tell(int station, int property) {
            switch (property) {
                case 0:
                    return x[station];
                case 1:
                    return y[station];
                case 2:
                    return channel[station];
                case 3:
                    return powerClass[station];
                case 4:
                    return RADII[powerClass[station]];
                default:
                    return awake[station];
            }
        }

        int countAwake() {
            int sum = 0;
            for (int station = 0; station < count; station++) {
                sum += awake[station];
            }
            return sum;
        }

        void copyFrom(Stations other) {
            copyRow(other.x, x);
            copyRow(other.y, y);
            copyRow(other.channel, channel);
            copyRow(other.powerClass, powerClass);
            copyRow(other.awake, awake);
            count = other.count;
        }
    }

    private static final class Events {
        final int[] x = new int[MOST_EVENTS];
        final int[] y = new int[MOST_EVENTS];
        final int[] radius = new int[MOST_EVENTS];
        final int[] channel = new int[MOST_EVENTS];
        final int[] from = new int[MOST_EVENTS];
        final int[] to = new int[MOST_EVENTS];
        final int[] cancelled = new int[MOST_EVENTS];
        int count;

        boolean has(int event) {
            return event >= 0 && event < count;
        }

        boolean isOn(int event, int hour) {
            return cancelled[event] == 0 && from[event] <= hour && hour < to[event];
        }

        int tell(int event, int property, int hour) {
            switch (property) {
                case 0:
                    return x[event];
                case 1:
                    return y[event];
                case 2:
                    return radius[event];
                case 3:
                    return channel[event];
                case 4:
                    return from[event];
                case 5:
                    return to[event];
                case 6:
                    return cancelled[event];
                default:
                    return isOn(event, hour) ? 1 : 0;
            }
        }

        void copyFrom(Events other) {
            copyRow(other.x, x);
            copyRow(other.y, y);
            copyRow(other.radius, radius);
            copyRow(other.channel, channel);
            copyRow(other.from, from);
            copyRow(other.to, to);
            copyRow(other.cancelled, cancelled);
            count = other.count;
        }
    }

    /** The devices, each with the lease that it has, if it has one. */
    private static final class Devices {
        final int[] x = new int[MOST_DEVICES];
        final int[] y = new int[MOST_DEVICES];
        final int[] greatest = new int[MOST_DEVICES];
        final int[] channel = new int[MOST_DEVICES];
        final int[] power = new int[MOST_DEVICES];
        final int[] end = new int[MOST_DEVICES];
        final int[] notice = new int[MOST_DEVICES];
        final int[] hops = new int[MOST_DEVICES];
        final int[] struck = new int[MOST_DEVICES];
        final int[] cut = new int[MOST_DEVICES];
        int count;

        boolean has(int device) {
            return device >= 0 && device < count;
        }

        boolean hasLease(int device) {
            return channel[device] != NO_LEASE;
        }

        boolean hasNotice(int device) {
            return notice[device] != NO_NOTICE;
        }

        void putOn(int device, int newChannel, int newPower) {
            channel[device] = newChannel;
            power[device] = newPower;
            notice[device] = NO_NOTICE;
        }

        void removeLease(int device) {
            channel[device] = NO_LEASE;
            notice[device] = NO_NOTICE;
        }

        int tell(int device, int property) {
            switch (property) {
                case 0:
                    return x[device];
                case 1:
                    return y[device];
                case 2:
                    return greatest[device];
                case 3:
                    return hasLease(device) ? channel[device] : NONE;
                case 4:
                    return hasLease(device) ? power[device] : NONE;
                case 5:
                    return hasLease(device) ? end[device] : NONE;
                case 6:
                    return hasNotice(device) ? notice[device] : NONE;
                case 7:
                    return hops[device];
                case 8:
                    return struck[device];
                default:
                    return cut[device];
            }
        }

        int countLeases() {
            int sum = 0;
            for (int device = 0; device < count; device++) {
                if (hasLease(device)) {
                    sum++;
                }
            }
            return sum;
        }

        int countOn(int wanted) {
            int sum = 0;
            for (int device = 0; device < count; device++) {
                if (channel[device] == wanted) {
                    sum++;
                }
            }
            return sum;
        }

        int countNotices() {
            int sum = 0;
            for (int device = 0; device < count; device++) {
                if (hasNotice(device)) {
                    sum++;
                }
            }
            return sum;
        }

        int sumOf(int[] row) {
            int sum = 0;
            for (int device = 0; device < count && device < row.length; device++) {
                sum += row[device];
            }
            return sum;
        }

        int atPlace(int place) {
            for (int device = 0; device < count; device++) {
                if (hasLease(device) && placeOf(device) == place) {
                    return device;
                }
            }
            return NONE;
        }

        private int placeOf(int device) {
            int before = 0;
            for (int other = 0; other < count; other++) {
                if (hasLease(other) && comesBefore(other, device)) {
                    before++;
                }
            }
            return before;
        }

        private boolean comesBefore(int one, int other) {
            if (end[one] != end[other]) {
                return end[one] < end[other];
            }
            if (hasNotice(one) != hasNotice(other)) {
                return hasNotice(one);
            }
            if (power[one] != power[other]) {
                return power[one] > power[other];
            }
            return one < other;
        }

        void copyFrom(Devices other) {
            copyRow(other.x, x);
            copyRow(other.y, y);
            copyRow(other.greatest, greatest);
            copyRow(other.channel, channel);
            copyRow(other.power, power);
            copyRow(other.end, end);
            copyRow(other.notice, notice);
            copyRow(other.hops, hops);
            copyRow(other.struck, struck);
            copyRow(other.cut, cut);
            count = other.count;
        }
    }

    /** All that undo, save and restore bring back, with the rules that change it. */
    private static final class State {
        final Stations stations = new Stations();
        final Events events = new Events();
        final Devices devices = new Devices();
        final int[] settings = new int[SETTINGS];
        int hour;
        int reason;

        State() {
            for (int setting = 0; setting < SETTINGS; setting++) {
                settings[setting] = FIRST_VALUES[setting];
            }
        }

        void copyFrom(State other) {
            stations.copyFrom(other.stations);
            events.copyFrom(other.events);
            devices.copyFrom(other.devices);
            copyRow(other.settings, settings);
            hour = other.hour;
            reason = other.reason;
        }

        // ---- each of these answers as the public call does, without recording

        int putStation(int x, int y, int channel, int powerClass) {
            if (isNoPlace(x, y) || isOutside(channel, 0, CHANNELS - 1)
                    || isOutside(powerClass, 0, GREATEST_CLASS)) {
                return BAD_VALUE;
            }
            if (stations.count >= MOST_STATIONS) {
                return FULL;
            }
            int station = stations.count;
            stations.x[station] = x;
            stations.y[station] = y;
            stations.channel[station] = channel;
            stations.powerClass[station] = powerClass;
            stations.awake[station] = 0;
            stations.count++;
            return station;
        }

        int putEvent(int x, int y, int radius, int channel, int from, int to) {
            if (isNoPlace(x, y) || isOutside(radius, 1, GREATEST_RADIUS)
                    || isOutside(channel, 0, CHANNELS - 1)
                    || isOutside(from, hour, LAST_HOUR - 1)
                    || isOutside(to, from + 1, LAST_HOUR)) {
                return BAD_VALUE;
            }
            if (events.count >= MOST_EVENTS) {
                return FULL;
            }
            int event = events.count;
            events.x[event] = x;
            events.y[event] = y;
            events.radius[event] = radius;
            events.channel[event] = channel;
            events.from[event] = from;
            events.to[event] = to;
            events.cancelled[event] = 0;
            events.count++;
            review();
            return event;
        }

        int putDevice(int x, int y, int power) {
            if (isNoPlace(x, y) || isOutside(power, 0, GREATEST_POWER)) {
                return BAD_VALUE;
            }
            if (devices.count >= MOST_DEVICES) {
                return FULL;
            }
            int device = devices.count;
            devices.x[device] = x;
            devices.y[device] = y;
            devices.greatest[device] = power;
            devices.hops[device] = 0;
            devices.struck[device] = 0;
            devices.cut[device] = 0;
            devices.removeLease(device);
            devices.count++;
            return device;
        }

        int change(int setting, int value) {
            if (isOutside(setting, 0, SETTINGS - 1)) {
                return BAD_INDEX;
            }
            if (isOutside(value, LEAST_VALUES[setting], GREATEST_VALUES[setting])) {
                return BAD_VALUE;
            }
            int before = settings[setting];
            settings[setting] = value;
            review();
            return before;
        }

        int turnStation(int station, int awake) {
            if (!stations.has(station)) {
                return BAD_INDEX;
            }
            if (stations.awake[station] == awake) {
                return NOT_POSSIBLE;
            }
            stations.awake[station] = awake;
            review();
            return devices.countNotices();
        }

        int callOff(int event) {
            if (!events.has(event)) {
                return BAD_INDEX;
            }
            if (events.cancelled[event] == 1 || events.to[event] <= hour) {
                return NOT_POSSIBLE;
            }
            events.cancelled[event] = 1;
            review();
            return devices.countNotices();
        }

        int makeLease(int device, int power, int hours) {
            if (!devices.has(device)) {
                return BAD_INDEX;
            }
            if (isOutside(power, 0, GREATEST_POWER) || isOutside(hours, 1, MOST_HOURS)) {
                return BAD_VALUE;
            }
            reason = refusal(device, power);
            if (reason != NOT_REFUSED) {
                return REFUSED;
            }
            devices.putOn(device, findOffer(device, power), power);
            devices.end[device] = hour + hours;
            return devices.channel[device];
        }

        int prolongLease(int device, int hours) {
            if (!devices.has(device)) {
                return BAD_INDEX;
            }
            if (isOutside(hours, 1, MOST_HOURS)) {
                return BAD_VALUE;
            }
            if (!devices.hasLease(device)) {
                return NOT_POSSIBLE;
            }
            if (devices.hasNotice(device)) {
                reason = HAS_A_NOTICE;
                return REFUSED;
            }
            reason = NOT_REFUSED;
            devices.end[device] = hour + hours;
            return devices.end[device];
        }

        int dropLease(int device) {
            if (!devices.has(device)) {
                return BAD_INDEX;
            }
            if (!devices.hasLease(device)) {
                return NOT_POSSIBLE;
            }
            devices.removeLease(device);
            return devices.countLeases();
        }

        int passHours(int hours) {
            if (isOutside(hours, 1, MOST_HOURS)) {
                return BAD_VALUE;
            }
            if (hour + hours > LAST_HOUR) {
                return NOT_POSSIBLE;
            }
            int hops = 0;
            for (int passed = 0; passed < hours; passed++) {
                hops += passOneHour();
            }
            return hops;
        }

        // ---- the rules

        /** Forecasts go beyond the last hour, so there is no bound here. */
        int passOneHour() {
            hour++;
            endLeases();
            review();
            int hops = 0;
            for (int device = 0; device < devices.count; device++) {
                if (devices.hasNotice(device) && asksNow(device)) {
                    hops += hopOrStrike(device);
                }
            }
            cutLeases();
            return hops;
        }

        private void endLeases() {
            for (int device = 0; device < devices.count; device++) {
                if (devices.hasLease(device) && devices.end[device] <= hour) {
                    devices.removeLease(device);
                }
            }
        }

        private void review() {
            for (int device = 0; device < devices.count; device++) {
                if (devices.hasLease(device)) {
                    if (leaseIsAllowed(device)) {
                        devices.notice[device] = NO_NOTICE;
                    } else if (!devices.hasNotice(device)) {
                        devices.notice[device] = hour;
                    }
                }
            }
        }

        private void cutLeases() {
            for (int device = 0; device < devices.count; device++) {
                if (devices.hasNotice(device)
                        && devices.notice[device] <= hour - settings[GRACE]) {
                    devices.removeLease(device);
                    devices.cut[device]++;
                }
            }
        }

        private boolean asksNow(int device) {
            return (hour + device) % settings[PERIOD] == 0;
        }

        int nextAsking(int device) {
            return hour + settings[PERIOD] - (hour + device) % settings[PERIOD];
        }

        private int hopOrStrike(int device) {
            for (int power = devices.power[device]; power >= 0; power--) {
                int channel = findOffer(device, power);
                if (channel != NONE) {
                    devices.putOn(device, channel, power);
                    devices.hops[device]++;
                    return 1;
                }
            }
            devices.removeLease(device);
            devices.struck[device]++;
            return 0;
        }

        private int refusal(int device, int power) {
            if (devices.hasLease(device)) {
                return HAS_A_LEASE;
            }
            if (power > devices.greatest[device]) {
                return TOO_MUCH_POWER;
            }
            if (!isAllowedOnAny(device, power)) {
                return NOWHERE_ALLOWED;
            }
            return findOffer(device, power) == NONE ? NO_OFFER : NOT_REFUSED;
        }

        private boolean isAllowedOnAny(int device, int power) {
            for (int channel = 0; channel < CHANNELS; channel++) {
                if (isAllowed(channel, power, devices.x[device], devices.y[device])) {
                    return true;
                }
            }
            return false;
        }

        int findOffer(int device, int power) {
            int best = NONE;
            int fewest = MOST_DEVICES;
            for (int channel = 0; channel < CHANNELS; channel++) {
                if (isAllowed(channel, power, devices.x[device], devices.y[device])
                        && isFree(channel, device, power)) {
                    int others = devices.countOn(channel);
                    if (devices.channel[device] == channel) {
                        others--;
                    }
                    if (others < fewest) {
                        fewest = others;
                        best = channel;
                    }
                }
            }
            return best;
        }

        private boolean isFree(int channel, int device, int power) {
            for (int other = 0; other < devices.count; other++) {
                if (other != device && devices.channel[other] == channel
                        && isWithin(devices.x[other] - devices.x[device],
                                devices.y[other] - devices.y[device],
                                REACHES[devices.power[other]] + REACHES[power])) {
                    return false;
                }
            }
            return true;
        }

        boolean leaseIsAllowed(int device) {
            return isAllowed(devices.channel[device], devices.power[device],
                    devices.x[device], devices.y[device]);
        }

        boolean isAllowed(int channel, int power, int x, int y) {
            for (int station = 0; station < stations.count; station++) {
                int radius = barredRadius(station, channel);
                if (radius != NOT_BARRED
                        && isWithin(stations.x[station] - x, stations.y[station] - y,
                                radius + REACHES[power])) {
                    return false;
                }
            }
            for (int event = 0; event < events.count; event++) {
                if (events.channel[event] == channel && events.isOn(event, hour)
                        && isWithin(events.x[event] - x, events.y[event] - y,
                                events.radius[event] + REACHES[power])) {
                    return false;
                }
            }
            return true;
        }

        private int barredRadius(int station, int channel) {
            if (stations.awake[station] == 0) {
                return NOT_BARRED;
            }
            int radius = RADII[stations.powerClass[station]];
            int apart = stations.channel[station] - channel;
            if (apart == 0) {
                return radius;
            }
            if (apart == 1 || apart == -1) {
                return radius * settings[ADJACENT] / 100;
            }
            return NOT_BARRED;
        }

        int tellTotal(int property) {
            switch (property) {
                case 0:
                    return hour;
                case 1:
                    return stations.count;
                case 2:
                    return events.count;
                case 3:
                    return devices.count;
                case 4:
                    return stations.countAwake();
                case 5:
                    return devices.countLeases();
                case 6:
                    return devices.countNotices();
                case 7:
                    return devices.sumOf(devices.hops);
                case 8:
                    return devices.sumOf(devices.struck);
                case 9:
                    return devices.sumOf(devices.cut);
                case 10:
                    return reason;
                case 13:
                    return settings[ADJACENT];
                case 14:
                    return settings[PERIOD];
                default:
                    return settings[GRACE];
            }
        }
    }

    /**
     * The states that undo goes back to, in a ring. It has one place more than it keeps, so that
     * the state ahead of a call can be noted before it is known whether the call has an error.
     */
    private static final class History {
        private final State[] ring = new State[MOST_KEPT + 1];
        private int oldest;
        int count;

        History() {
            for (int place = 0; place < ring.length; place++) {
                ring[place] = new State();
            }
        }

        void note(State state) {
            ring[(oldest + count) % (MOST_KEPT + 1)].copyFrom(state);
        }

        void keepNoted() {
            if (count < MOST_KEPT) {
                count++;
            } else {
                oldest = (oldest + 1) % (MOST_KEPT + 1);
            }
        }

        void takeLatest(State state) {
            if (count > 0) {
                count--;
                state.copyFrom(ring[(oldest + count) % (MOST_KEPT + 1)]);
            }
        }
    }

    /** The text, and a reader that goes through its acts until the first fault. */
    private static final class ActText {
        private final int[] bytes = new int[MOST_BYTES];
        int length;
        private int place;
        private int fault = NONE;
        /** The act read last: its letter and its numbers. */
        int kind;
        int first;
        int second;
        int third;

        int add(int b) {
            if (isOutside(b, 32, 126)) {
                return BAD_VALUE;
            }
            if (length >= MOST_BYTES) {
                return FULL;
            }
            bytes[length] = b;
            length++;
            return length;
        }

        int empty() {
            int before = length;
            length = 0;
            return before;
        }

        int findFault() {
            startReading();
            for (int act = 0; act < MOST_BYTES && hasMore(); act++) {
                readAct();
            }
            return fault;
        }

        void startReading() {
            place = 0;
            fault = NONE;
        }

        boolean hasMore() {
            return fault == NONE && place < length;
        }

        void readAct() {
            if (!hasMore()) {
                return;
            }
            kind = bytes[place];
            place++;
            switch (kind) {
                case 'l':
                    first = readNumber(0, MOST_DEVICES - 1);
                    readByte('p');
                    second = readNumber(0, GREATEST_POWER);
                    readByte('h');
                    third = readNumber(1, MOST_HOURS);
                    break;
                case 'g':
                    first = readNumber(0, MOST_DEVICES - 1);
                    break;
                case 'w':
                case 'z':
                    first = readNumber(0, MOST_STATIONS - 1);
                    break;
                case 't':
                    first = readNumber(1, MOST_HOURS);
                    break;
                default:
                    fault = place - 1;
                    break;
            }
            readByte(';');
        }

        private void readByte(int due) {
            if (fault != NONE) {
                return;
            }
            if (place < length && bytes[place] == due) {
                place++;
            } else {
                fault = place;
            }
        }

        private int readNumber(int least, int greatest) {
            if (fault != NONE) {
                return 0;
            }
            int start = place;
            if (!isDigitAt(start)) {
                fault = start;
                return 0;
            }
            int number = bytes[start] - '0';
            place++;
            if (number != 0 && isDigitAt(place)) {
                number = number * 10 + bytes[place] - '0';
                place++;
            }
            if (isOutside(number, least, greatest)) {
                fault = start;
            }
            return number;
        }

        private boolean isDigitAt(int at) {
            return at < length && bytes[at] >= '0' && bytes[at] <= '9';
        }
    }
}
