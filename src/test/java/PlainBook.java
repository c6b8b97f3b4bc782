import java.util.ArrayDeque;
import java.util.ArrayList;
import java.util.Comparator;
import java.util.Deque;
import java.util.List;
import java.util.regex.Matcher;
import java.util.regex.Pattern;

/**
 * The document told a second time, with the Java library and without thrift, so that ModelTest can
 * hold the class against it. A call is told by its name and its arguments.
 */
final class PlainBook {
    private static final int[] RADIUS = {4, 9, 16, 26, 40};
    private static final int[] REACH = {1, 3, 6, 10};

    private static final class Station {
        int x, y, channel, rank;
        boolean awake;
    }

    private static final class Event {
        int x, y, radius, channel, from, to;
        boolean cancelled;

        boolean onAt(int hour) {
            return !cancelled && hour >= from && hour < to;
        }
    }

    private static final class Lease {
        int channel, power, end;
        Integer notice;
    }

    private static final class Device {
        int number, x, y, power, hops, struck, cut;
        Lease lease;
    }

    private static final class State {
        List<Station> stations = new ArrayList<>();
        List<Event> events = new ArrayList<>();
        List<Device> devices = new ArrayList<>();
        int[] settings = {40, 4, 3};
        int hour, reason;

        State copy() {
            State copy = new State();
            for (Station old : stations) {
                Station s = new Station();
                s.x = old.x; s.y = old.y; s.channel = old.channel; s.rank = old.rank; s.awake = old.awake;
                copy.stations.add(s);
            }
            for (Event old : events) {
                Event e = new Event();
                e.x = old.x; e.y = old.y; e.radius = old.radius; e.channel = old.channel;
                e.from = old.from; e.to = old.to; e.cancelled = old.cancelled;
                copy.events.add(e);
            }
            for (Device old : devices) {
                Device d = new Device();
                d.number = old.number; d.x = old.x; d.y = old.y; d.power = old.power;
                d.hops = old.hops; d.struck = old.struck; d.cut = old.cut;
                if (old.lease != null) {
                    d.lease = new Lease();
                    d.lease.channel = old.lease.channel;
                    d.lease.power = old.lease.power;
                    d.lease.end = old.lease.end;
                    d.lease.notice = old.lease.notice;
                }
                copy.devices.add(d);
            }
            copy.settings = settings.clone();
            copy.hour = hour;
            copy.reason = reason;
            return copy;
        }

        List<Device> holders() {
            return devices.stream().filter(d -> d.lease != null).toList();
        }

        int notices() {
            return (int) holders().stream().filter(d -> d.lease.notice != null).count();
        }

        boolean allowed(int channel, int power, int x, int y) {
            int r = REACH[power];
            for (Station s : stations) {
                if (!s.awake) {
                    continue;
                }
                double distance = Math.hypot(s.x - x, s.y - y);
                if (s.channel == channel && distance <= RADIUS[s.rank] + r + 1e-9) {
                    return false;
                }
                if (Math.abs(s.channel - channel) == 1
                        && distance <= Math.floor(RADIUS[s.rank] * settings[0] / 100.0 + 1e-9) + r + 1e-9) {
                    return false;
                }
            }
            for (Event e : events) {
                if (e.onAt(hour) && e.channel == channel
                        && Math.hypot(e.x - x, e.y - y) <= e.radius + r + 1e-9) {
                    return false;
                }
            }
            return true;
        }

        boolean allowed(Device d) {
            return allowed(d.lease.channel, d.lease.power, d.x, d.y);
        }

        boolean free(int channel, Device device, int power) {
            return holders().stream().noneMatch(o -> o != device && o.lease.channel == channel
                && Math.hypot(o.x - device.x, o.y - device.y) <= REACH[o.lease.power] + REACH[power] + 1e-9);
        }

        int offer(Device device, int power) {
            List<Integer> possible = new ArrayList<>();
            for (int c = 0; c < 8; c++) {
                if (allowed(c, power, device.x, device.y) && free(c, device, power)) {
                    possible.add(c);
                }
            }
            return possible.stream().min(Comparator
                .comparingLong((Integer c) -> holders().stream()
                    .filter(o -> o != device && o.lease.channel == c).count())
                .thenComparing(c -> c)).orElse(-6);
        }

        void review() {
            for (Device d : holders()) {
                if (allowed(d)) {
                    d.lease.notice = null;
                } else if (d.lease.notice == null) {
                    d.lease.notice = hour;
                }
            }
        }

        int pass() {
            hour++;
            for (Device d : holders()) {
                if (d.lease.end == hour) {
                    d.lease = null;
                }
            }
            review();
            int hops = 0;
            for (Device d : devices) {
                if ((hour + d.number) % settings[1] != 0 || d.lease == null || d.lease.notice == null) {
                    continue;
                }
                int channel = -6;
                int power = d.lease.power + 1;
                while (channel < 0 && power > 0) {
                    power--;
                    channel = offer(d, power);
                }
                if (channel < 0) {
                    d.lease = null;
                    d.struck++;
                } else {
                    d.lease.channel = channel;
                    d.lease.power = power;
                    d.lease.notice = null;
                    d.hops++;
                    hops++;
                }
            }
            for (Device d : holders()) {
                if (d.lease.notice != null && hour - d.lease.notice >= settings[2]) {
                    d.lease = null;
                    d.cut++;
                }
            }
            return hops;
        }
    }

    private State now = new State();
    private final Deque<State> history = new ArrayDeque<>();
    private final State[] slots = new State[2];
    private String text = "";

    private static boolean in(int value, int least, int most) {
        return value >= least && value <= most;
    }

    /** The answer of a recorded call; a state is kept if it is no error. */
    private int recording(String name, int[] a) {
        State ahead = now.copy();
        int answer = recordedCall(name, a);
        if (answer >= 0) {
            history.addLast(ahead);
            if (history.size() > 5) {
                history.removeFirst();
            }
        }
        return answer;
    }

    int call(String name, int... a) {
        switch (name) {
            case "append":
                if (!in(a[0], 32, 126)) {
                    return -2;
                }
                if (text.length() == 80) {
                    return -4;
                }
                text += (char) a[0];
                return text.length();
            case "clearText":
                int length = text.length();
                text = "";
                return length;
            case "faultPosition":
                return fault();
            case "undo":
                if (history.isEmpty()) {
                    return -3;
                }
                now = history.removeLast();
                return history.size();
            case "save":
                if (!in(a[0], 0, 1)) {
                    return -1;
                }
                slots[a[0]] = now.copy();
                return now.hour;
            case "station": case "event": case "device": case "power": case "offer": case "next":
            case "leases": case "total":
                return look(name, a);
            case "vacant": case "allowedFrom": case "wouldStrike": case "channelIn": case "clearIn":
                return forecast(name, a);
            default:
                return recording(name, a);
        }
    }

    private int recordedCall(String name, int[] a) {
        switch (name) {
            case "addStation": {
                if (!in(a[0], 0, 99) || !in(a[1], 0, 99) || !in(a[2], 0, 7) || !in(a[3], 0, 4)) {
                    return -2;
                }
                if (now.stations.size() == 8) {
                    return -4;
                }
                Station s = new Station();
                s.x = a[0]; s.y = a[1]; s.channel = a[2]; s.rank = a[3];
                now.stations.add(s);
                return now.stations.size() - 1;
            }
            case "addEvent": {
                if (!in(a[0], 0, 99) || !in(a[1], 0, 99) || !in(a[2], 1, 30) || !in(a[3], 0, 7)
                        || !in(a[4], now.hour, 9998) || !in(a[5], a[4] + 1, 9999)) {
                    return -2;
                }
                if (now.events.size() == 8) {
                    return -4;
                }
                Event e = new Event();
                e.x = a[0]; e.y = a[1]; e.radius = a[2]; e.channel = a[3]; e.from = a[4]; e.to = a[5];
                now.events.add(e);
                now.review();
                return now.events.size() - 1;
            }
            case "addDevice": {
                if (!in(a[0], 0, 99) || !in(a[1], 0, 99) || !in(a[2], 0, 3)) {
                    return -2;
                }
                if (now.devices.size() == 16) {
                    return -4;
                }
                Device d = new Device();
                d.number = now.devices.size();
                d.x = a[0]; d.y = a[1]; d.power = a[2];
                now.devices.add(d);
                return d.number;
            }
            case "set": {
                if (!in(a[0], 0, 2)) {
                    return -1;
                }
                int[][] ranges = {{0, 100}, {1, 12}, {0, 20}};
                if (!in(a[1], ranges[a[0]][0], ranges[a[0]][1])) {
                    return -2;
                }
                int before = now.settings[a[0]];
                now.settings[a[0]] = a[1];
                now.review();
                return before;
            }
            case "cancel": {
                if (!in(a[0], 0, now.events.size() - 1)) {
                    return -1;
                }
                Event e = now.events.get(a[0]);
                if (e.cancelled || e.to <= now.hour) {
                    return -3;
                }
                e.cancelled = true;
                now.review();
                return now.notices();
            }
            case "renew": {
                if (!in(a[0], 0, now.devices.size() - 1)) {
                    return -1;
                }
                if (!in(a[1], 1, 99)) {
                    return -2;
                }
                Lease lease = now.devices.get(a[0]).lease;
                if (lease == null) {
                    return -3;
                }
                if (lease.notice != null) {
                    now.reason = 5;
                    return -5;
                }
                now.reason = 0;
                lease.end = now.hour + a[1];
                return lease.end;
            }
            case "run": {
                if (fault() != -6) {
                    return -3;
                }
                int done = 0;
                for (String act : text.split(";")) {
                    if (act.isEmpty()) {
                        break;
                    }
                    String[] numbers = act.substring(1).split("[ph]");
                    int[] values = new int[numbers.length];
                    for (int i = 0; i < values.length; i++) {
                        values[i] = Integer.parseInt(numbers[i]);
                    }
                    if (act(String.valueOf(act.charAt(0)), values) < 0) {
                        break;
                    }
                    done++;
                }
                return done;
            }
            case "restore": {
                if (!in(a[0], 0, 1)) {
                    return -1;
                }
                if (slots[a[0]] == null) {
                    return -3;
                }
                now = slots[a[0]].copy();
                return now.hour;
            }
            case "lease":
                return act("l", a);
            case "giveBack":
                return act("g", a);
            case "wake":
                return act("w", a);
            case "sleep":
                return act("z", a);
            case "pass":
                return act("t", a);
            default:
                throw new IllegalArgumentException(name);
        }
    }

    private int act(String letter, int[] a) {
        switch (letter) {
            case "l": {
                if (!in(a[0], 0, now.devices.size() - 1)) {
                    return -1;
                }
                if (!in(a[1], 0, 3) || !in(a[2], 1, 99)) {
                    return -2;
                }
                Device d = now.devices.get(a[0]);
                boolean somewhere = false;
                for (int c = 0; c < 8; c++) {
                    somewhere |= now.allowed(c, a[1], d.x, d.y);
                }
                int channel = now.offer(d, a[1]);
                now.reason = d.lease != null ? 1 : a[1] > d.power ? 2 : !somewhere ? 3 : channel < 0 ? 4 : 0;
                if (now.reason != 0) {
                    return -5;
                }
                d.lease = new Lease();
                d.lease.channel = channel;
                d.lease.power = a[1];
                d.lease.end = now.hour + a[2];
                return channel;
            }
            case "g": {
                if (!in(a[0], 0, now.devices.size() - 1)) {
                    return -1;
                }
                if (now.devices.get(a[0]).lease == null) {
                    return -3;
                }
                now.devices.get(a[0]).lease = null;
                return now.holders().size();
            }
            case "w":
            case "z": {
                if (!in(a[0], 0, now.stations.size() - 1)) {
                    return -1;
                }
                Station s = now.stations.get(a[0]);
                if (s.awake == letter.equals("w")) {
                    return -3;
                }
                s.awake = !s.awake;
                now.review();
                return now.notices();
            }
            default: {
                if (!in(a[0], 1, 99)) {
                    return -2;
                }
                if (now.hour + a[0] > 9999) {
                    return -3;
                }
                int hops = 0;
                for (int i = 0; i < a[0]; i++) {
                    hops += now.pass();
                }
                return hops;
            }
        }
    }

    private static final String DEVICE = "(?:1[0-5]|[0-9])";
    private static final String HOURS = "[1-9][0-9]?";
    private static final Pattern ACTS = Pattern.compile("(?:l" + DEVICE + "p[0-3]h" + HOURS + ";|g" + DEVICE
        + ";|[wz][0-7];|t" + HOURS + ";)*");

    /**
     * Looks for the longest beginning that can still become a text of the form. A lone digit that
     * is out of its range never can by a second one: every range of two digits begins at 0 or 1.
     */
    private int fault() {
        if (ACTS.matcher(text).matches()) {
            return -6;
        }
        for (int at = 0; at < text.length(); at++) {
            if (!canGoOn(text.substring(0, at + 1))) {
                // A second digit that makes a number too great is a fault at the first digit.
                boolean second = at > 0 && Character.isDigit(text.charAt(at))
                    && "123456789".indexOf(text.charAt(at - 1)) >= 0 && !Character.isDigit(at > 1 ? text.charAt(at - 2) : 'x');
                return second ? at - 1 : at;
            }
        }
        return text.length();
    }

    private static boolean canGoOn(String begin) {
        Matcher matcher = ACTS.matcher(begin);
        return matcher.matches() || matcher.hitEnd();
    }

    private int look(String name, int[] a) {
        switch (name) {
            case "station": {
                if (!in(a[0], 0, now.stations.size() - 1)) {
                    return -1;
                }
                if (!in(a[1], 0, 6)) {
                    return -2;
                }
                Station s = now.stations.get(a[0]);
                State other = now.copy();
                other.stations.get(a[0]).awake = false;
                long alone = now.holders().stream()
                    .filter(d -> !now.allowed(d) && other.allowed(other.devices.get(d.number))).count();
                return new int[] {s.x, s.y, s.channel, s.rank, RADIUS[s.rank], s.awake ? 1 : 0, (int) alone}[a[1]];
            }
            case "event": {
                if (!in(a[0], 0, now.events.size() - 1)) {
                    return -1;
                }
                if (!in(a[1], 0, 7)) {
                    return -2;
                }
                Event e = now.events.get(a[0]);
                return new int[] {e.x, e.y, e.radius, e.channel, e.from, e.to, e.cancelled ? 1 : 0,
                    e.onAt(now.hour) ? 1 : 0}[a[1]];
            }
            case "device": {
                if (!in(a[0], 0, now.devices.size() - 1)) {
                    return -1;
                }
                if (!in(a[1], 0, 10)) {
                    return -2;
                }
                Device d = now.devices.get(a[0]);
                int asks = now.hour + 1;
                while ((asks + a[0]) % now.settings[1] != 0) {
                    asks++;
                }
                Lease l = d.lease;
                return new int[] {d.x, d.y, d.power, l == null ? -6 : l.channel, l == null ? -6 : l.power,
                    l == null ? -6 : l.end, l == null || l.notice == null ? -6 : l.notice, d.hops, d.struck, d.cut,
                    asks}[a[1]];
            }
            case "power": {
                if (!in(a[0], 0, 7) || !in(a[1], 0, 99) || !in(a[2], 0, 99)) {
                    return -2;
                }
                int best = -6;
                for (int power = 0; power < 4; power++) {
                    if (now.allowed(a[0], power, a[1], a[2])) {
                        best = power;
                    }
                }
                return best;
            }
            case "offer":
                if (!in(a[0], 0, now.devices.size() - 1)) {
                    return -1;
                }
                return in(a[1], 0, 3) ? now.offer(now.devices.get(a[0]), a[1]) : -2;
            case "next": {
                if (a[0] < 0) {
                    return -2;
                }
                List<Device> order = new ArrayList<>(now.holders());
                order.sort(Comparator.comparingInt((Device d) -> d.lease.end)
                    .thenComparingInt(d -> d.lease.notice != null ? 0 : 1)
                    .thenComparingInt(d -> -d.lease.power).thenComparingInt(d -> d.number));
                return a[0] < order.size() ? order.get(a[0]).number : -6;
            }
            case "leases":
                return in(a[0], 0, 7) ? (int) now.holders().stream().filter(d -> d.lease.channel == a[0]).count() : -2;
            default:
                if (!in(a[0], 0, 15)) {
                    return -2;
                }
                return new int[] {now.hour, now.stations.size(), now.events.size(), now.devices.size(),
                    (int) now.stations.stream().filter(s -> s.awake).count(), now.holders().size(), now.notices(),
                    now.devices.stream().mapToInt(d -> d.hops).sum(), now.devices.stream().mapToInt(d -> d.struck).sum(),
                    now.devices.stream().mapToInt(d -> d.cut).sum(), now.reason, history.size(), text.length(),
                    now.settings[0], now.settings[1], now.settings[2]}[a[0]];
        }
    }

    private int forecast(String name, int[] a) {
        State then = now.copy();
        switch (name) {
            case "vacant": {
                if (!in(a[0], 0, 7) || !in(a[1], 0, 3)) {
                    return -2;
                }
                int sum = 0;
                for (int place = 0; place < 100; place++) {
                    sum += now.allowed(a[0], a[1], place / 10 * 10 + 5, place % 10 * 10 + 5) ? 1 : 0;
                }
                return sum;
            }
            case "allowedFrom":
                if (!in(a[0], 0, 7) || !in(a[1], 0, 99) || !in(a[2], 0, 99) || !in(a[3], 0, 3)) {
                    return -2;
                }
                while (then.hour <= 9999) {
                    if (then.allowed(a[0], a[3], a[1], a[2])) {
                        return then.hour;
                    }
                    then.hour++;
                }
                return -6;
            case "wouldStrike":
                if (!in(a[0], 0, now.stations.size() - 1)) {
                    return -1;
                }
                if (now.stations.get(a[0]).awake) {
                    return -3;
                }
                then.stations.get(a[0]).awake = true;
                then.review();
                return then.notices() - now.notices();
            case "channelIn":
                if (!in(a[0], 0, now.devices.size() - 1)) {
                    return -1;
                }
                if (!in(a[1], 0, 99)) {
                    return -2;
                }
                for (int i = 0; i < a[1]; i++) {
                    then.pass();
                }
                Lease lease = then.devices.get(a[0]).lease;
                return lease == null ? -6 : lease.channel;
            default:
                int hours = 0;
                while (then.notices() > 0 && hours <= 50) {
                    then.pass();
                    hours++;
                }
                return hours <= 50 ? hours : -6;
        }
    }
}
