import java.util.ArrayList;
import java.util.List;

/** Long runs of calls, always the same ones, held against PlainBook. */
public final class ModelTest {
    private static final Check check = new Check();
    private static final String[] CALLS = {
        "addStation", "addEvent", "addDevice", "set", "wake", "wake", "wake", "sleep", "sleep", "cancel", "lease",
        "lease", "lease", "lease", "lease", "renew", "giveBack", "pass", "pass", "pass", "text", "text",
        "faultPosition", "run", "undo", "save", "restore", "station", "event", "device", "device", "power", "offer",
        "next", "leases", "total", "vacant", "allowedFrom", "wouldStrike", "channelIn", "channelIn", "clearIn",
        "clearIn"};

    private long seed;
    private final VacantAir book = new VacantAir();
    private final PlainBook plain = new PlainBook();
    private final List<String> told = new ArrayList<>();
    private int calls;
    private boolean wrong;

    private ModelTest(long seed) {
        this.seed = seed;
    }

    public static void main(String[] args) {
        int runs = args.length > 0 ? Integer.parseInt(args[0]) : 150;
        int wrongRuns = 0;
        for (int run = 1; run <= runs && wrongRuns < 3; run++) {
            ModelTest test = new ModelTest(run);
            test.play(run);
            wrongRuns += test.wrong ? 1 : 0;
        }
        texts();
        check.end();
    }

    /** Good texts with each byte in each place, and each of their beginnings. */
    private static void texts() {
        String[] good = {"l0p0h1;", "l15p3h99;", "g0;w0;", "g10;z7;", "t1;t10;", "t99;l9p2h30;g5;"};
        for (String text : good) {
            for (int at = 0; at < text.length(); at++) {
                fault(text.substring(0, at));
                for (char b = 32; b <= 126; b++) {
                    fault(text.substring(0, at) + b + text.substring(at + 1));
                    fault(text.substring(0, at) + b + text.substring(at));
                    fault(text.substring(0, at) + b);
                }
            }
        }
    }

    private static void fault(String text) {
        VacantAir book = new VacantAir();
        PlainBook plain = new PlainBook();
        for (int i = 0; i < text.length(); i++) {
            book.append(text.charAt(i));
            plain.call("append", text.charAt(i));
        }
        check.due("fault of " + text, book.faultPosition(), plain.call("faultPosition"));
    }

    private int below(int bound) {
        seed = seed * 6364136223846793005L + 1442695040888963407L;
        return (int) ((seed >>> 33) % bound);
    }

    /** Mostly a value in the range, at times its edge, one beyond it, or something far away. */
    private int value(int least, int most) {
        switch (below(60)) {
            case 0:
                return least - 1;
            case 1:
                return most + 1;
            case 2:
                return least;
            case 3:
                return most;
            case 4:
                return below(2) == 0 ? Integer.MAX_VALUE : Integer.MIN_VALUE;
            default:
                return least + below(most - least + 1);
        }
    }

    /** Places close together, so that the things get into each other's way. */
    private int place(boolean narrow) {
        return narrow && below(12) > 0 ? 40 + below(24) : value(0, 99);
    }

    private void play(int run) {
        boolean narrow = run % 4 != 0;
        int start = run % 5 == 0 ? 101 : 0;
        for (int i = 0; i < start; i++) {
            ask("pass", 99);
        }
        for (int i = 0; i < 14; i++) {
            ask("addDevice", place(narrow), place(narrow), value(0, 3));
            if (i % 2 == 0) {
                ask("addStation", place(narrow), place(narrow), value(0, 7), run % 3 == 0 ? value(0, 4) : below(2));
            }
        }
        ask("set", 1, value(1, 12));
        ask("set", 2, value(0, 20));
        ask("set", 0, value(0, 100));
        while (calls < 512 && !wrong) {
            one(CALLS[below(CALLS.length)], narrow);
        }
    }

    private void one(String name, boolean narrow) {
        int hour = Math.max(0, book.total(0));
        switch (name) {
            case "addStation":
                ask(name, place(narrow), place(narrow), value(0, 7), value(0, 4));
                break;
            case "addEvent": {
                int from = hour + value(0, 15);
                ask(name, place(narrow), place(narrow), value(1, 30), value(0, 7), from, from + value(1, 40));
                break;
            }
            case "addDevice":
                ask(name, place(narrow), place(narrow), value(0, 3));
                break;
            case "set": {
                int setting = value(0, 2);
                ask(name, setting, value(0, setting == 0 ? 100 : setting == 1 ? 12 : 20));
                break;
            }
            case "wake": case "sleep": case "cancel": case "wouldStrike":
                ask(name, value(0, 7));
                break;
            case "lease":
                ask(name, value(0, 15), value(0, 3), value(1, 99));
                break;
            case "renew": case "channelIn":
                ask(name, value(0, 15), value(1, 99));
                break;
            case "giveBack":
                ask(name, value(0, 15));
                break;
            case "pass":
                ask(name, below(4) == 0 ? value(1, 99) : 1 + below(4));
                break;
            case "text":
                text();
                break;
            case "save": case "restore":
                ask(name, value(0, 1));
                break;
            case "station": case "event": case "device":
                ask(name, value(0, 15), value(0, 10));
                break;
            case "power":
                ask(name, value(0, 7), place(narrow), place(narrow));
                break;
            case "offer":
                ask(name, value(0, 15), value(0, 3));
                break;
            case "next": case "total":
                ask(name, value(0, 15));
                break;
            case "leases":
                ask(name, value(0, 7));
                break;
            case "vacant":
                ask(name, value(0, 7), value(0, 3));
                break;
            case "allowedFrom":
                ask(name, value(0, 7), place(narrow), place(narrow), value(0, 3));
                break;
            default:
                ask(name);
        }
        if (below(6) == 0) {
            everything();
        }
    }

    private void text() {
        if (below(3) == 0) {
            ask("clearText");
        }
        StringBuilder acts = new StringBuilder();
        int count = 1 + below(3);
        for (int i = 0; i < count; i++) {
            switch (below(5)) {
                case 0:
                    acts.append('l').append(below(17)).append('p').append(below(4)).append('h').append(1 + below(101));
                    break;
                case 1:
                    acts.append('g').append(below(17));
                    break;
                case 2:
                    acts.append('w').append(below(8));
                    break;
                case 3:
                    acts.append('z').append(below(8));
                    break;
                default:
                    acts.append('t').append(1 + below(6));
            }
            acts.append(';');
        }
        if (below(12) == 0) {
            acts.setCharAt(below(acts.length()), "0123456789lgwztph; ~".charAt(below(20)));
        }
        if (below(12) == 0) {
            acts.deleteCharAt(below(acts.length()));
        }
        for (int i = 0; i < acts.length(); i++) {
            ask("append", acts.charAt(i));
        }
        ask("faultPosition");
        if (below(2) == 0) {
            ask("run");
            ask("clearText");
        }
    }

    /** Looks at all there is, without counting it as calls: what is looked at never changes. */
    private void everything() {
        int before = calls;
        for (int property = 0; property < 16; property++) {
            ask("total", property);
        }
        for (int number = 0; number < 16; number++) {
            for (int property = 0; property < 11; property++) {
                ask("device", number, property);
            }
            for (int property = 0; number < 8 && property < 8; property++) {
                ask("event", number, property);
                ask("station", number, property);
            }
            ask("next", number);
            ask("offer", number, number % 4);
        }
        calls = before;
    }

    private void ask(String name, int... a) {
        if (wrong) {
            return;
        }
        calls++;
        StringBuilder call = new StringBuilder(name).append('(');
        for (int i = 0; i < a.length; i++) {
            call.append(i == 0 ? "" : ", ").append(a[i]);
        }
        call.append(')');
        int want = plain.call(name, a);
        int got = answer(name, a);
        told.add(call + " = " + want);
        check.due(call.toString(), got, want);
        if (got != want) {
            wrong = true;
            for (int i = Math.max(0, told.size() - 40); i < told.size(); i++) {
                System.out.println("  " + told.get(i));
            }
        }
    }

    private int answer(String name, int[] a) {
        switch (name) {
            case "addStation": return book.addStation(a[0], a[1], a[2], a[3]);
            case "addEvent": return book.addEvent(a[0], a[1], a[2], a[3], a[4], a[5]);
            case "addDevice": return book.addDevice(a[0], a[1], a[2]);
            case "set": return book.set(a[0], a[1]);
            case "wake": return book.wake(a[0]);
            case "sleep": return book.sleep(a[0]);
            case "cancel": return book.cancel(a[0]);
            case "lease": return book.lease(a[0], a[1], a[2]);
            case "renew": return book.renew(a[0], a[1]);
            case "giveBack": return book.giveBack(a[0]);
            case "pass": return book.pass(a[0]);
            case "append": return book.append(a[0]);
            case "clearText": return book.clearText();
            case "faultPosition": return book.faultPosition();
            case "run": return book.run();
            case "undo": return book.undo();
            case "save": return book.save(a[0]);
            case "restore": return book.restore(a[0]);
            case "station": return book.station(a[0], a[1]);
            case "event": return book.event(a[0], a[1]);
            case "device": return book.device(a[0], a[1]);
            case "power": return book.power(a[0], a[1], a[2]);
            case "offer": return book.offer(a[0], a[1]);
            case "next": return book.next(a[0]);
            case "leases": return book.leases(a[0]);
            case "total": return book.total(a[0]);
            case "vacant": return book.vacant(a[0], a[1]);
            case "allowedFrom": return book.allowedFrom(a[0], a[1], a[2], a[3]);
            case "wouldStrike": return book.wouldStrike(a[0]);
            case "channelIn": return book.channelIn(a[0], a[1]);
            case "clearIn": return book.clearIn();
            default: throw new IllegalArgumentException(name);
        }
    }
}
