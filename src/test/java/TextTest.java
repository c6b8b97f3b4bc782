/** Promises 13 to 16: append, clearText, faultPosition, run. */
public final class TextTest {
    private static final Check check = new Check();

    public static void main(String[] args) {
        append();
        clearing();
        goodTexts();
        faults();
        fullTexts();
        runs();
        runStopsAtErrors();
        runIsRecordedAsOne();
        runPasses();
        check.end();
    }

    private static void append() {
        VacantAir book = new VacantAir();
        int[] bad = {31, 127, 0, -1, 128, Integer.MAX_VALUE, Integer.MIN_VALUE};
        for (int b : bad) {
            check.due("append " + b, book.append(b), VacantAir.BAD_VALUE);
        }
        check.due("still empty", book.total(12), 0);
        for (int length = 1; length <= 80; length++) {
            int b = length % 2 == 0 ? 32 : 126;
            check.due("append", book.append(b), length);
            check.due("length", book.total(12), length);
        }
        check.due("no room", book.append(32), VacantAir.FULL);
        check.due("a bad byte ahead of no room", book.append(127), VacantAir.BAD_VALUE);
        check.due("length", book.total(12), 80);
        check.due("nothing recorded", book.total(11), 0);
    }

    private static void clearing() {
        VacantAir book = new VacantAir();
        check.due("empty", book.clearText(), 0);
        check.write(book, "t1;x");
        check.due("fault", book.faultPosition(), 3);
        check.due("clear", book.clearText(), 4);
        check.due("length", book.total(12), 0);
        check.due("no fault", book.faultPosition(), VacantAir.NONE);
        check.write(book, "t");
        check.due("nothing of the old text", book.faultPosition(), 1);
        check.due("clear", book.clearText(), 1);
        check.due("nothing recorded", book.undo(), VacantAir.NOT_POSSIBLE);
    }

    private static void fault(String text, int want) {
        VacantAir book = new VacantAir();
        check.write(book, text);
        check.due("fault of " + text, book.faultPosition(), want);
        if (want != VacantAir.NONE) {
            check.due("run of " + text, book.run(), VacantAir.NOT_POSSIBLE);
            check.due("nothing recorded", book.total(11), 0);
        }
        check.due("the text stays", book.total(12), text.length());
    }

    private static void goodTexts() {
        String[] good = {"", "t1;", "t99;", "t10;", "g0;", "g9;", "g10;", "g15;", "w0;", "w7;", "z0;", "z7;",
            "l0p0h1;", "l15p3h99;", "t1;t2;g3;w4;z5;l6p1h7;", "l9p2h10;z1;"};
        for (String text : good) {
            fault(text, VacantAir.NONE);
        }
    }

    private static void faults() {
        fault("x", 0);
        fault(";", 0);
        fault(" ", 0);
        fault("0", 0);
        fault("L", 0);
        fault("t1;;", 3);
        fault("t1; t1;", 3);
        fault("t1;q", 3);
        fault("t", 1);
        fault("t;", 1);
        fault("t 1;", 1);
        fault("t-1;", 1);
        fault("t0", 1);
        fault("t0;", 1);
        fault("t00;", 1);
        fault("t01;", 1);
        fault("t1", 2);
        fault("t1 ;", 2);
        fault("t1g", 2);
        fault("t12", 3);
        fault("t100;", 3);
        fault("t123", 3);
        fault("g", 1);
        fault("g16;", 1);
        fault("g16", 1);
        fault("g20;", 1);
        fault("g99", 1);
        fault("g00;", 2);
        fault("g01;", 2);
        fault("g150;", 3);
        fault("g15", 3);
        fault("g1:", 2);
        fault("g/", 1);
        fault("g:", 1);
        fault("w8", 1);
        fault("w8;", 1);
        fault("w10;", 1);
        fault("w70;", 1);
        fault("w00", 2);
        fault("w7", 2);
        fault("z8;", 1);
        fault("z07;", 2);
        fault("z7x", 2);
        fault("l", 1);
        fault("l;", 1);
        fault("l16p0h1;", 1);
        fault("l1", 2);
        fault("l1;", 2);
        fault("l15", 3);
        fault("l15p", 4);
        fault("l15q3h1;", 3);
        fault("l15 p3h1;", 3);
        fault("l1p4h1;", 3);
        fault("l1p4", 3);
        fault("l1p10h1;", 3);
        fault("l1p03h1;", 4);
        fault("l1p3", 4);
        fault("l1p3;", 4);
        fault("l1p3p3;", 4);
        fault("l1p3h", 5);
        fault("l1p3h;", 5);
        fault("l1p3h0;", 5);
        fault("l1p3h1", 6);
        fault("l1p3h99", 7);
        fault("l1p3h100;", 7);
        fault("l1p3h1;t", 8);
        fault("l16p9h0", 1);
        fault("t1;g3;w4;z5;l6p1h0;t1;", 17);
        fault("t1;x;t0;", 3);
    }

    private static void fullTexts() {
        StringBuilder acts = new StringBuilder();
        for (int i = 0; i < 26; i++) {
            acts.append("t1;");
        }
        fault(acts.toString(), VacantAir.NONE);
        fault(acts + "t1", 80);
        fault(acts + "t0", 79);
        fault(acts + "tt", 79);
        StringBuilder longer = new StringBuilder();
        for (int i = 0; i < 20; i++) {
            longer.append("t10;");
        }
        fault(longer.toString(), VacantAir.NONE);
        VacantAir book = new VacantAir();
        check.write(book, acts.toString());
        check.due("26 acts", book.run(), 26);
        check.due("26 hours", book.total(0), 26);
        check.due("one record", book.total(11), 1);
    }

    private static VacantAir bookWithText(String text) {
        VacantAir book = new VacantAir();
        book.addStation(50, 50, 0, 1);
        book.addStation(20, 20, 1, 1);
        book.addDevice(50, 50, 3);
        book.addDevice(20, 20, 1);
        check.write(book, text);
        return book;
    }

    private static void runs() {
        VacantAir book = bookWithText("l0p3h20;l1p1h9;w0;t1;z0;g1;");
        check.due("all acts", book.run(), 6);
        check.due("the text stays", book.total(12), 27);
        check.due("the channel", book.device(0, 3), 0);
        check.due("the power", book.device(0, 4), 3);
        check.due("the end", book.device(0, 5), 20);
        check.due("the notice is gone with the sleep", book.device(0, 6), VacantAir.NONE);
        check.due("given back", book.device(1, 3), VacantAir.NONE);
        check.due("an hour", book.total(0), 1);
        check.due("asleep", book.station(0, 5), 0);
        VacantAir empty = new VacantAir();
        check.due("no acts", empty.run(), 0);
        check.due("are recorded", empty.total(11), 1);
    }

    private static void runStopsAtErrors() {
        VacantAir book = bookWithText("t1;l0p0h5;l0p0h5;t1;");
        check.due("up to the refusal", book.run(), 2);
        check.due("the reason", book.total(10), 1);
        check.due("hour 1", book.total(0), 1);
        check.due("the next run", book.run(), 1);
        check.due("undo", book.undo(), 4);
        check.due("undo", book.undo(), 3);
        check.due("the reason before", book.total(10), 0);
        book = bookWithText("w1;w1;t1;");
        check.due("waking twice", book.run(), 1);
        check.due("hour 0", book.total(0), 0);
        check.due("awake", book.total(4), 1);
        book = bookWithText("z1;t1;");
        check.due("asleep already", book.run(), 0);
        check.due("recorded", book.total(11), 5);
        book = bookWithText("t1;w2;t1;");
        check.due("no such station", book.run(), 1);
        book = bookWithText("t1;g1;t1;");
        check.due("no lease", book.run(), 1);
        book = bookWithText("t1;l2p0h1;t1;");
        check.due("no such device", book.run(), 1);
        check.due("no reason", book.total(10), 0);
        book = bookWithText("l1p2h1;t1;");
        check.due("too much power", book.run(), 0);
        check.due("reason 2", book.total(10), 2);
    }

    private static void runIsRecordedAsOne() {
        VacantAir book = bookWithText("l0p3h20;t2;w0;");
        check.due("run", book.run(), 3);
        check.due("recorded", book.total(11), 5);
        check.due("undo", book.undo(), 4);
        check.due("hour 0", book.total(0), 0);
        check.due("no lease", book.total(5), 0);
        check.due("asleep", book.total(4), 0);
        check.due("the text stays", book.total(12), 14);
        check.due("run", book.run(), 3);
        check.due("undo", book.undo(), 4);
    }

    private static void runPasses() {
        VacantAir book = new VacantAir();
        for (int i = 0; i < 100; i++) {
            book.pass(99);
        }
        check.write(book, "t98;t1;t1;");
        check.due("up to the last hour", book.run(), 2);
        check.due("hour 9999", book.total(0), 9999);
        check.due("no hour any more", book.run(), 0);
        check.due("still hour 9999", book.total(0), 9999);
    }
}
