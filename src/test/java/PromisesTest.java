import java.util.NoSuchElementException;

/** The promises of the document in their order; every answer here is worked out by hand. */
public final class PromisesTest {
    private static final Class<IllegalArgumentException> ARGUMENT = IllegalArgumentException.class;
    private static final Class<IndexOutOfBoundsException> INDEX = IndexOutOfBoundsException.class;
    private static final Class<NoSuchElementException> ELEMENT = NoSuchElementException.class;
    private static final Class<IllegalStateException> STATE = IllegalStateException.class;

    /** Stage 0 is done at 2; stage 1 fails at 3 by step 2, is over at 4; undone at 7. */
    private static final String TRIP = "trips;stock 10 1;stock 5 2;journey 0 0*4:2 then 1*3:1 and 1*9:1;";
    /** Done at 2, fails at 3, the undo fails at 4 and 5, parked at 5. */
    private static final String PARKED =
        "trips;patience 2;stock 9 1;stock 0 1;journey 0 0*2:2 undo 3 again 4 then 1*1:1 again 0;";

    /** As many stocks, journeys, stages, steps of a stage and steps in all as there may be. */
    private static final String FULL = "trips;stock 9 1;stock 5 2;stock 7 1;stock 3 9;stock 4 1;stock 2 1;patience 2;"
        + "journey 0 0*1:1undo1 and1*1:2 and2*1:1 then3*2:2undo3 then4*1:3 and5*3:1again2;"
        + "journey 1 0*2:1again1 then0*1:2 and0*1:1 and0*2:1 then1*1:1 then2*2:9;"
        + "journey 1 1*1:4undo4 then1*1:1 then1*1:1 then1*1:1 then3*9:1;"
        + "journey 2 2*3:2 and3*1:1 and4*4:1 then5*2:3;journey 3 4*1:5 then0*9:1 and1*1:1;"
        + "journey 4 5*1:1undo2 then1*1:1undo1 then1*9:1again3;journey 5 3*1:1 and0*9:9again9;"
        + "journey 999 0*1:1and0*1:1and0*1:1 then0*1:1and0*1:1and0*1:1 then0*1:1 then0*1:1and0*1:1and0*1:1 then0*1:1;";
    private static final int FULL_TICKS = 45;

    private final Check check = new Check("PromisesTest");

    public static void main(String[] args) {
        PromisesTest test = new PromisesTest();
        test.newObject();
        test.append();
        test.load();
        test.loadWords();
        test.loadRanges();
        test.loadTooMany();
        test.loadOrderOfErrors();
        test.errorOffset();
        test.state();
        test.stock();
        test.journey();
        test.step();
        test.owed();
        test.restsIn();
        test.stateAfter();
        test.forecastsOfManyJourneys();
        test.help();
        test.pass();
        test.ticksOfSteps();
        test.ticksOfGuards();
        test.ticksOfStages();
        test.ticksOfUndoing();
        test.settle();
        test.writeOff();
        test.goForward();
        test.restock();
        test.undo();
        test.checksum();
        test.check.end();
    }

    private void is(String what, long due, long got) {
        check.equal(what, due, got);
    }

    private void reads(String text, int answer, int offset) {
        UndoJourneys x = new UndoJourneys();
        is("load of " + text, answer, Texts.load(x, text));
        is("errorOffset of " + text, offset, x.errorOffset());
    }

    private static UndoJourneys after(String text, int ticks) {
        UndoJourneys x = Texts.loaded(text);
        for (int left = ticks; left > 0; left -= 200) {
            x.pass(Math.min(200, left));
        }
        return x;
    }

    private static String repeated(String piece, int times) {
        return piece.repeat(times);
    }

    // Promise 1

    private void newObject() {
        UndoJourneys x = new UndoJourneys();
        int[] due = {0, 0, 0, 0, 5, 3, 0, 0, 0, 0};
        for (int what = 0; what < due.length; what++) {
            is("new: state " + what, due[what], x.state(what));
        }
        is("new: errorOffset", -1, x.errorOffset());
        is("new: undo", -1, x.undo());
        check.raises("new: load(1)", ARGUMENT, () -> x.load(1));
        check.raises("new: stock", INDEX, () -> x.stock(0, 0));
        check.raises("new: journey", INDEX, () -> x.journey(0, 0));
        is("SYNTAX_ERROR", -2, UndoJourneys.SYNTAX_ERROR);
        is("OUT_OF_RANGE", -3, UndoJourneys.OUT_OF_RANGE);
        is("TOO_MANY", -4, UndoJourneys.TOO_MANY);
    }

    // Promise 2

    private void append() {
        UndoJourneys x = new UndoJourneys();
        // "trip" "s;st" "ock " "7 2;" and four spaces
        is("append", 20, x.append(0x74726970, 0x733B7374, 0x6F636B20, 0x3720323B, 0x20202020));
        is("append, read", 0, x.load(20));
        is("append, level", 7, x.stock(0, 0));
        is("append, guard", 2, x.stock(0, 1));
        is("append of bytes of 255", 20, x.append(0x74726970, 0x733BFF3B, -1, -1, -1));
        is("append of bytes of 255, read", -2, x.load(20));
        is("append of bytes of 255, offset", 6, x.errorOffset());
        for (int length = 20; length <= 700; length += 20) {
            is("append up to " + length, length, x.append(0x20202020, 0x20202020, 0x20202020, 0x20202020, 0x20202020));
        }
        is("append beyond 700", -1, x.append(0x74726970, 0x733B2020, 0, 0, 0));
        is("append beyond 700 again", -1, x.append(0, 0, 0, 0, 0));
        check.raises("load(701)", ARGUMENT, () -> x.load(701));
        is("load(700)", -2, x.load(700));
        is("load(700), offset", 700, x.errorOffset());
        is("append behind a load", 20, x.append(0, 0, 0, 0, 0));
    }

    // Promise 3

    private void load() {
        UndoJourneys x = Texts.loaded("trips;stock 8 1;journey 3 0*2:1;wait 7;patience 9;");
        x.pass(5);
        x.restock(0, 9);
        Texts.append(x, "trips;");
        check.raises("load(-1)", ARGUMENT, () -> x.load(-1));
        check.raises("load(21)", ARGUMENT, () -> x.load(21));
        is("the buffer is as it was", 0, x.load(6));
        for (int what = 0; what < 4; what++) {
            is("all is new: state " + what, 0, x.state(what));
        }
        is("wait is usual", 5, x.state(4));
        is("patience is usual", 3, x.state(5));
        check.raises("the buffer is empty", ARGUMENT, () -> x.load(1));

        UndoJourneys y = Texts.loaded(TRIP);
        y.pass(4);
        long before = y.checksum();
        is("an error", -2, Texts.load(y, TRIP + "journey 3 0*2:1;wait"));
        is("an error leaves all data", before, y.checksum());
        check.raises("the buffer is empty behind an error", ARGUMENT, () -> y.load(1));
        is("an empty text", -2, y.load(0));
        is("an empty text, offset", 0, y.errorOffset());
        Texts.append(y, "trips;wait 9;patience 4;stock 3 2;");
        is("the first bytes only", 0, y.load(13));
        is("the first bytes: wait", 9, y.state(4));
        is("the first bytes: patience", 3, y.state(5));
        Texts.append(y, "trips;journey 1 0*1:1;");
        is("a text cut off", -2, y.load(5));
        is("a text cut off, offset", 5, y.errorOffset());
        loadOverOtherData();
    }

    private void loadOverOtherData() {
        for (int ticks = 1; ticks <= FULL_TICKS; ticks++) {
            UndoJourneys used = after(FULL, ticks);
            UndoJourneys fresh = new UndoJourneys();
            is("load over other data", 1, Texts.load(used, PARKED));
            is("load into a new object", 1, Texts.load(fresh, PARKED));
            is("load over other data: all", fresh.checksum(), used.checksum());
            is("load over other data: what comes", fresh.restsIn(0), used.restsIn(0));
        }
    }

    private void loadWords() {
        reads("trips;", 0, -1);
        reads("  trips  ;  ", 0, -1);
        reads("trips;stock1 1;journey2 0*1:1undo2again3and0*1:1then0*1:1;wait4;", 1, -1);
        reads("trips ; stock 1 1 ; journey 2 0 * 1 : 1 undo 2 again 3 and 0 * 1 : 1 ; ", 1, -1);
        reads("trips;stock 00000000000000000000000000000000000012 09;", 0, -1);
        reads("trips;stock 1 1;journey 0 0*1:1;stock 2 2;journey 0 1*1:1;", 2, -1);
        reads("   ", -2, 3);
        reads("trip;", -2, 0);
        reads("tripss;", -2, 0);
        reads("tripsz;", -2, 0);
        reads("tripsa;", -2, 0);
        reads("drips;", -2, 0);
        reads(";", -2, 0);
        reads(";stock 1 1;", -2, 0);
        reads(" Trips;", -2, 1);
        reads("trips", -2, 5);
        reads("trips   ", -2, 8);
        reads("trips;;", -2, 6);
        reads("trips;7;", -2, 6);
        reads("trips;stocks 1 1;", -2, 6);
        reads("trips;stock 1;", -2, 13);
        reads("trips;stock 1 1", -2, 15);
        reads("trips;stock 1 1 1;", -2, 16);
        reads("trips;stock 1\t1;", -2, 13);
        reads("trips;\n", -2, 6);
        reads("trips;\u0000", -2, 6);
        reads("trips;stock -1 1;", -2, 12);
        reads("trips;stock 1 1;journey 1;", -2, 25);
        reads("trips;stock 1 1;journey 1 0*1;", -2, 29);
        reads("trips;stock 1 1;journey 1 0:1*1;", -2, 27);
        reads("trips;stock 1 1;journey 1 0*1:1 undo;", -2, 36);
        reads("trips;stock 1 1;journey 1 0*1:1 again 1 undo 1;", -2, 40);
        reads("trips;stock 1 1;journey 1 0*1:1 undo 1 undo 1;", -2, 39);
        reads("trips;stock 1 1;journey 1 0*1:1 then;", -2, 36);
        reads("trips;stock 1 1;journey 1 0*1:1 and and 0*1:1;", -2, 36);
        reads("trips;stock 1 1;journey 1 0*1:1 0*1:1;", -2, 32);
        reads("trips;stock 1 1;journey 1 0*1:1 or 0*1:1;", -2, 32);
        reads("trips;wait;", -2, 10);
        reads("trips;wait 1;patience 1;wait 2;", -2, 24);
        reads("trips;wait 1;patience 1;patience 1;", -2, 24);
        reads("trips;wait 1;patience 1;wait 0;", -2, 24);
    }

    private void loadRanges() {
        reads("trips;stock 0 1;stock 9999 9;", 0, -1);
        reads("trips;stock 10000 1;", -3, 12);
        reads("trips;stock 1 0;", -3, 14);
        reads("trips;stock 1 10;", -3, 14);
        reads("trips;stock 1 4294967297;", -3, 14);
        reads("trips;stock 18446744073709551617 1;", -3, 12);
        reads("trips;wait 1;patience 1;", 0, -1);
        reads("trips;wait 99;patience 9;", 0, -1);
        reads("trips;wait 0;", -3, 11);
        reads("trips;wait 100;", -3, 11);
        reads("trips;patience 0;", -3, 15);
        reads("trips;patience 10;", -3, 15);
        String stock = "trips;stock 1 1;";
        reads(stock + "journey 0 0*1:1 undo 0 again 0;", 1, -1);
        reads(stock + "journey 999 0*999:99 undo 9 again 9;", 1, -1);
        reads(stock + "journey 1000 0*1:1;", -3, 24);
        reads(stock + "journey 0 1*1:1;", -3, 26);
        reads(stock + "stock 1 1;journey 0 1*1:1 and 2*1:1;", -3, 46);
        reads("trips;journey 0 0*1:1;stock 1 1;", -3, 16);
        reads(stock + "journey 0 0*0:1;", -3, 28);
        reads(stock + "journey 0 0*1000:1;", -3, 28);
        reads(stock + "journey 0 0*1:0;", -3, 30);
        reads(stock + "journey 0 0*1:100;", -3, 30);
        reads(stock + "journey 0 0*1:1 undo 10;", -3, 37);
        reads(stock + "journey 0 0*1:1 undo 1 again 10;", -3, 45);
    }

    private void loadTooMany() {
        String stock = "stock 1 1;";
        String step = "0*1:1";
        reads("trips;" + repeated(stock, 6), 0, -1);
        reads("trips;" + repeated(stock, 6) + " " + stock, -4, 67);
        reads("trips;" + repeated(stock, 6) + "stock;", -4, 66);
        String one = "journey 0 " + step + ";";
        reads("trips;" + stock + repeated(one, 8), 8, -1);
        reads("trips;" + stock + repeated(one, 9), -4, 16 + 8 * 16);
        String five = "journey 0 " + step + repeated(" then " + step, 4);
        reads("trips;" + stock + five + ";", 1, -1);
        reads("trips;" + stock + five + " then;", -4, 16 + five.length() + 1);
        String three = "journey 0 " + step + repeated(" and " + step, 2);
        reads("trips;" + stock + three + ";", 1, -1);
        reads("trips;" + stock + three + " and;", -4, 16 + three.length() + 1);
        reads("trips;" + stock + three + " then " + step + repeated(" and " + step, 3) + ";", -4,
            16 + three.length() + 6 + 5 + 2 * 10 + 1);
        String fifteen = "journey 0 " + step + "and" + step + "and" + step
            + repeated("then" + step + "and" + step + "and" + step, 4) + ";";
        String ten = "journey 0 " + step + repeated("then" + step, 4) + ";";
        String forty = "trips;" + stock + fifteen + fifteen + ten + ten;
        reads(forty, 4, -1);
        reads(forty + one, -4, forty.length() + 10);
        reads(forty + "journey 0 1*1:1;", -3, forty.length() + 10);
        reads(forty + "journey 0;", -2, forty.length() + 9);
        reads(forty + "journey 0 0*0:1;", -4, forty.length() + 10);
    }

    private void loadOrderOfErrors() {
        reads("trips;stock 10000 0;wait 1;wait 1;", -3, 12);
        reads("trips;stock 1 1;journey 0 0*1:1 undo 10 x;", -3, 37);
        reads("trips;wait 1;wait 1;stock 10000 1;", -2, 13);
        reads("trips;stock 10000x", -3, 12);
    }

    // Promise 4

    private void errorOffset() {
        UndoJourneys x = new UndoJourneys();
        Texts.load(x, "trips;wait 0;");
        is("errorOffset", 11, x.errorOffset());
        check.raises("load(1)", ARGUMENT, () -> x.load(1));
        is("errorOffset behind a load that threw", 11, x.errorOffset());
        Texts.load(x, "trips;");
        is("errorOffset behind a good text", -1, x.errorOffset());
        Texts.load(x, "trips");
        x.undo();
        is("errorOffset behind undo", 5, x.errorOffset());
    }

    // Promise 5

    private void state() {
        UndoJourneys x = after(PARKED + "wait 6;journey 0 0*2:1;journey 1 0*2:1;journey 4 1*1:1;stock 3 3;", 8);
        // journey 1 waits for the guard from 0 to 5 and fails at 6, journey 2 fails at 7, journey 3 fails at 4
        int[] due = {8, 3, 4, 5, 6, 2, 0, 2, 1, 2};
        for (int what = 0; what < due.length; what++) {
            is("state " + what, due[what], x.state(what));
        }
        check.raises("state(-1)", ARGUMENT, () -> x.state(-1));
        check.raises("state(10)", ARGUMENT, () -> x.state(10));
        is("state 6", 1, after("trips;stock 5 1;journey 0 0*5:3;", 4).state(6));
    }

    // Promise 6

    private void stock() {
        UndoJourneys x = after(TRIP, 4);
        int[][] due = {{6, 1, 1, 4, 0, 0}, {2, 2, 1, 3, 0, 0}};
        for (int stock = 0; stock < 2; stock++) {
            for (int what = 0; what < 6; what++) {
                is("stock " + stock + " " + what, due[stock][what], x.stock(stock, what));
            }
        }
        check.raises("stock(-1, 0)", INDEX, () -> x.stock(-1, 0));
        check.raises("stock(2, 0)", INDEX, () -> x.stock(2, 0));
        check.raises("stock(2, 6)", INDEX, () -> x.stock(2, 6));
        check.raises("stock(0, -1)", ARGUMENT, () -> x.stock(0, -1));
        check.raises("stock(0, 6)", ARGUMENT, () -> x.stock(0, 6));

        UndoJourneys done = after("trips;stock 9 2;journey 0 0*2:1;journey 0 0*3:9;", 5);
        int[] dueDone = {4, 2, 1, 3, 2, 0};
        for (int what = 0; what < 6; what++) {
            is("stock with a journey done " + what, dueDone[what], done.stock(0, what));
        }
        UndoJourneys off = after(PARKED, 6);
        off.writeOff(0);
        is("stock, written off", 2, off.stock(0, 5));
        is("stock, written off is not held", 0, off.stock(0, 2));
        is("stock, written off is not taken", 0, off.stock(0, 3));
        off.pass(1);
        is("the journey is undone", 4, off.journey(0, 0));
        is("stock, written off in an ended journey", 2, off.stock(0, 5));
    }

    // Promise 7

    private void journey() {
        UndoJourneys x = Texts.loaded(TRIP + "journey 7 0*1:1;");
        isJourney("at 0", x, 0, 0, 0, 2, 3, -1, -1, 0);
        isJourney("at 0", x, 1, 0, 7, 1, 1, -1, -1, 0);
        x.pass(1);
        isJourney("at 1", x, 0, 1, 0, 2, 3, 0, -1, 0);
        x.pass(2);
        isJourney("at 3", x, 0, 1, 0, 2, 3, 1, -1, 0);
        x.pass(2);
        isJourney("at 5", x, 0, 2, 0, 2, 3, -1, -1, 7);
        x.pass(1);
        isJourney("at 6", x, 0, 2, 0, 2, 3, -1, -1, 4);
        x.pass(2);
        isJourney("at 8", x, 0, 4, 0, 2, 3, -1, 7, 0);
        x.pass(1);
        isJourney("at 9", x, 1, 3, 7, 1, 1, -1, 8, 0);
        isJourney("parked", after(PARKED, 9), 0, 5, 0, 2, 2, -1, 5, 2);
        check.raises("journey(-1, 0)", INDEX, () -> x.journey(-1, 0));
        check.raises("journey(2, 0)", INDEX, () -> x.journey(2, 0));
        check.raises("journey(2, 7)", INDEX, () -> x.journey(2, 7));
        check.raises("journey(1, 7)", ARGUMENT, () -> x.journey(1, 7));
        check.raises("journey(1, -1)", ARGUMENT, () -> x.journey(1, -1));
    }

    private void isJourney(String when, UndoJourneys x, int journey, int... due) {
        for (int what = 0; what < due.length; what++) {
            is("journey " + journey + " " + what + " " + when, due[what], x.journey(journey, what));
        }
    }

    // Promise 8

    private void step() {
        UndoJourneys x = Texts.loaded("trips;stock 1 1;stock 7 2;journey 0 1*2:3;"
            + "journey 1 0*1:1 undo 2 again 3 and 1*4:5 then 1*6:7 again 9;");
        int[][] due = {{0, 0, 1, 1, 0, 2, 3}, {0, 1, 4, 5, 0, 0, 0}, {1, 1, 6, 7, 0, 0, 9}};
        for (int step = 0; step < 3; step++) {
            isStep("at 0", x, 1, step, due[step]);
        }
        isStep("at 0", x, 0, 0, 0, 1, 2, 3, 0, 0, 0);
        check.raises("step(-1, 0, 0)", INDEX, () -> x.step(-1, 0, 0));
        check.raises("step(2, 9, 9)", INDEX, () -> x.step(2, 9, 9));
        check.raises("step(0, 1, 9)", ELEMENT, () -> x.step(0, 1, 9));
        check.raises("step(0, -1, 0)", ELEMENT, () -> x.step(0, -1, 0));
        check.raises("step(1, 3, 0)", ELEMENT, () -> x.step(1, 3, 0));
        check.raises("step(1, 2, 7)", ARGUMENT, () -> x.step(1, 2, 7));
        check.raises("step(1, 2, -1)", ARGUMENT, () -> x.step(1, 2, -1));
        is("step left with failures", 1, after(PARKED, 9).step(0, 0, 5));
    }

    private void isStep(String when, UndoJourneys x, int journey, int step, int... due) {
        for (int what = 0; what < due.length; what++) {
            is("step " + journey + " " + step + " " + what + " " + when, due[what], x.step(journey, step, what));
        }
    }

    private void isStates(String when, UndoJourneys x, int journey, int... due) {
        for (int step = 0; step < due.length; step++) {
            is("state of step " + journey + " " + step + " " + when, due[step], x.step(journey, step, 4));
        }
    }

    // Promise 9

    private void owed() {
        UndoJourneys x = after("trips;stock 99 2;journey 0 0*1:1;journey 0 0*1:1 and 0*1:3 and 0*1:2 then 0*999:1;", 5);
        is("owed 0", 2, x.owed(1, 0));
        is("owed 1", 1, x.owed(1, 1));
        is("owed 2", 0, x.owed(1, 2));
        check.raises("owed 3", ELEMENT, () -> x.owed(1, 3));
        check.raises("owed -1", ELEMENT, () -> x.owed(1, -1));
        check.raises("owed least", ELEMENT, () -> x.owed(1, Integer.MIN_VALUE));
        check.raises("owed most", ELEMENT, () -> x.owed(1, Integer.MAX_VALUE));
        check.raises("owed(2, -1)", INDEX, () -> x.owed(2, -1));
        check.raises("owed(-1, 0)", INDEX, () -> x.owed(-1, 0));
        is("owed of a journey that is done", 0, x.owed(0, 0));
        x.pass(2);
        is("owed behind an undo", 0, x.owed(1, 0));
        check.raises("owed behind an undo", ELEMENT, () -> x.owed(1, 1));
        UndoJourneys running = after("trips;stock 99 1;journey 0 0*1:1 and 0*1:9;", 3);
        is("owed, running is not done", 0, running.owed(0, 0));
        check.raises("owed, running is not done", ELEMENT, () -> running.owed(0, 1));
    }

    // Promise 10

    private void restsIn() {
        UndoJourneys x = Texts.loaded(TRIP);
        long before = x.checksum();
        is("restsIn undone", 8, x.restsIn(0));
        is("restsIn changes nothing", before, x.checksum());
        x.pass(7);
        is("restsIn 1", 1, x.restsIn(0));
        x.pass(1);
        is("restsIn now", 0, x.restsIn(0));
        check.raises("restsIn(1)", INDEX, () -> x.restsIn(1));
        check.raises("restsIn(-1)", INDEX, () -> x.restsIn(-1));
        is("restsIn parked", 6, Texts.loaded(PARKED).restsIn(0));
        is("restsIn of a parked one", 0, after(PARKED, 6).restsIn(0));
        is("restsIn done", 1003, Texts.loaded("trips;stock 1 1;journey 999 0*1:3;").restsIn(0));
        is("restsIn beyond the time of 9999", 100, lateForward().restsIn(0));
        // Each stage begins in the tick behind the end of the one before it.
        UndoJourneys slow = Texts.loaded("trips;stock 9 1;journey 999 0*1:99" + repeated(" then 0*1:99", 4) + ";");
        is("restsIn of five stages", 999 + 5 * 99 + 5, slow.restsIn(0));
        is("stateAfter before the last tick", 1, slow.stateAfter(0, 999 + 5 * 99 + 4));
        is("stateAfter the last tick", 3, slow.stateAfter(0, 999 + 5 * 99 + 5));
    }

    /** A parked journey that has been let go forward at the time 9990, for a step of 99 ticks. */
    private static UndoJourneys lateForward() {
        UndoJourneys x = after("trips;patience 1;stock 9 1;stock 0 1;journey 0 0*1:1 undo 1 then 1*1:99;", 9990);
        x.restock(1, 1);
        x.goForward(0);
        return x;
    }

    // Promise 11

    private void stateAfter() {
        UndoJourneys x = Texts.loaded(TRIP);
        long before = x.checksum();
        int[] due = {0, 1, 1, 1, 1, 2, 2, 2, 4, 4};
        for (int ticks = 0; ticks < due.length; ticks++) {
            is("stateAfter " + ticks, due[ticks], x.stateAfter(0, ticks));
        }
        is("stateAfter 3000", 4, x.stateAfter(0, 3000));
        is("stateAfter changes nothing", before, x.checksum());
        check.raises("stateAfter 3001", ARGUMENT, () -> x.stateAfter(0, 3001));
        check.raises("stateAfter -1", ARGUMENT, () -> x.stateAfter(0, -1));
        check.raises("stateAfter of no journey", INDEX, () -> x.stateAfter(1, -1));
        check.raises("stateAfter of journey -1", INDEX, () -> x.stateAfter(-1, 0));
        is("stateAfter parked", 5, Texts.loaded(PARKED).stateAfter(0, 6));
        is("stateAfter, not yet parked", 2, Texts.loaded(PARKED).stateAfter(0, 5));
        is("stateAfter beyond the time of 9999", 3, lateForward().stateAfter(0, 100));
        is("stateAfter beyond the time of 9999, before", 1, lateForward().stateAfter(0, 99));
    }

    /** What is foretold at any time, for any time, is what comes. */
    private void forecastsOfManyJourneys() {
        UndoJourneys x = Texts.loaded(FULL);
        is("stocks", 6, x.state(1));
        is("journeys", 8, x.state(2));
        is("steps", 40, x.state(3));
        int[][] states = new int[8][2 * FULL_TICKS + 1];
        for (int ticks = 0; ticks <= 2 * FULL_TICKS; ticks++) {
            UndoJourneys y = after(FULL, ticks);
            for (int journey = 0; journey < 8; journey++) {
                states[journey][ticks] = y.journey(journey, 0);
            }
        }
        for (int time = 0; time <= FULL_TICKS; time++) {
            UndoJourneys y = after(FULL, time);
            for (int journey = 0; journey < 7; journey++) {
                for (int ticks = 0; ticks <= FULL_TICKS; ticks++) {
                    is("stateAfter at " + time, states[journey][time + ticks], y.stateAfter(journey, ticks));
                }
                int rest = y.restsIn(journey);
                is("restsIn: at rest at " + time, 1, states[journey][time + rest] >= 3 ? 1 : 0);
                is("restsIn: not before at " + time, 1, rest == 0 || states[journey][time + rest - 1] < 3 ? 1 : 0);
            }
        }
    }

    // Promise 12

    private void help() {
        UndoJourneys x = Texts.loaded(TRIP + "journey 1 0*3:1 then 1*2:2;wait 3;");
        long before = x.checksum();
        is("help 0 1", 7, x.help(0, 1));
        is("help 0 0", -1, x.help(0, 0));
        is("help 1 0", -1, x.help(1, 0));
        is("help changes nothing", before, x.checksum());
        is("help when it will be done", 0, Texts.loaded("trips;stock 3 1;journey 0 0*3:1;").help(0, 0));
        is("help when it is done", 0, after("trips;stock 3 1;journey 0 0*3:1;", 5).help(0, 0));
        is("help when it is undone", -1, after("trips;stock 3 1;journey 0 0*4:1;", 5).help(0, 0));
        is("help when it is parked", -1, after(PARKED, 9).help(0, 1));
        is("help of 999", 999, Texts.loaded("trips;stock 0 1;journey 0 0*999:1;").help(0, 0));
        is("help of 1000", -1, Texts.loaded("trips;stock 0 2;journey 0 0*999:1 and 0*1:1;").help(0, 0));
        String late = "trips;stock 9 1;stock 0 1;journey 999 0*1:%d then 1*1:1;";
        is("help in just 1100 ticks", 1, Texts.loaded(String.format(late, 98)).help(0, 1));
        is("help in 1101 ticks", -1, Texts.loaded(String.format(late, 99)).help(0, 1));
        // With 2 to 4 more, journey 0 would take what journey 1 is to have.
        is("help where more is not better", 0, Texts.loaded("trips;stock 3 9;journey 0 0*5:1;journey 0 0*3:1;").help(1, 0));
        UndoJourneys y = Texts.loaded("trips;stock 2 9;journey 0 0*5:1;journey 0 0*4:1;");
        is("help before the other one takes", 2, y.help(1, 0));
        y.restock(0, 3);
        is("help behind the other one", 4, y.help(1, 0));
        is("help of the other one", 0, y.help(0, 0));
        check.raises("help of no journey", INDEX, () -> y.help(2, 0));
        check.raises("help of journey -1", INDEX, () -> y.help(-1, 0));
        check.raises("help by no stock", INDEX, () -> y.help(0, 1));
        check.raises("help by stock -1", INDEX, () -> y.help(0, -1));
        is("help beyond the time of 9999", 0, lateForward().help(0, 0));
    }

    // Promise 13

    private void pass() {
        UndoJourneys x = Texts.loaded("trips;stock 9 1;journey 0 0*1:1;journey 5 0*99:1;journey 6 0*1:9;");
        check.raises("pass 0", ARGUMENT, () -> x.pass(0));
        check.raises("pass 201", ARGUMENT, () -> x.pass(201));
        check.raises("pass -1", ARGUMENT, () -> x.pass(-1));
        check.raises("pass most", ARGUMENT, () -> x.pass(Integer.MAX_VALUE));
        is("pass that threw is no change", 0, x.undo());
        Texts.load(x, "trips;stock 9 1;journey 0 0*1:1;journey 5 0*99:1;journey 6 0*1:9;");
        is("pass 1", 0, x.pass(1));
        is("pass to the end of one", 1, x.pass(1));
        is("pass over nothing", 0, x.pass(4));
        is("pass 2", 1, x.pass(1));
        is("the time", 7, x.state(0));
        is("pass 200", 1, x.pass(200));
        is("the time", 207, x.state(0));
        is("two end at once", 2, Texts.loaded("trips;stock 1 2;journey 0 0*1:2;journey 1 0*2:1;").pass(3));
        is("a parked one has not ended", 0, Texts.loaded(PARKED).pass(200));
        UndoJourneys y = after(TRIP, 9800);
        check.raises("pass beyond 9999", ARGUMENT, () -> y.pass(200));
        is("pass to 9999", 0, y.pass(199));
        check.raises("pass at 9999", ARGUMENT, () -> y.pass(1));
        is("the time is 9999", 9999, y.state(0));
    }

    private void ticksOfSteps() {
        UndoJourneys x = Texts.loaded("trips;stock 5 1;stock 0 1;journey 2 0*5:3;journey 3 1*1:1 again 2;");
        x.pass(2);
        isStates("before the start", x, 0, 0);
        x.pass(1);
        isStates("at the start", x, 0, 2);
        is("the amount is taken", 0, x.stock(0, 0));
        x.pass(1);
        is("one repeat less", 1, x.step(1, 0, 6));
        isStates("with repeats left", x, 1, 1);
        x.pass(1);
        is("no repeat left", 0, x.step(1, 0, 6));
        isStates("running", x, 0, 2);
        isStates("without repeats", x, 1, 1);
        x.pass(1);
        isStates("as long as its duration", x, 0, 3);
        isStates("failed", x, 1, 4);
        is("undoing", 2, x.journey(1, 0));
        x.pass(1);
        is("undone", 4, x.journey(1, 0));
        is("undone at", 6, x.journey(1, 5));
        isStates("failed stays", x, 1, 4);

        UndoJourneys sibling = Texts.loaded("trips;stock 3 1;stock 0 1;journey 0 0*1:1 and 1*1:1 and 0*2:3;");
        sibling.pass(1);
        isStates("a step behind a failed one begins", sibling, 0, 2, 4, 2);
        sibling.pass(2);
        isStates("the others run on", sibling, 0, 3, 4, 2);
        is("going forward until then", 1, sibling.journey(0, 0));
        sibling.pass(1);
        isStates("all are over", sibling, 0, 3, 4, 3);
        is("undoing", 2, sibling.journey(0, 0));
        sibling.pass(1);
        isStates("undone from behind", sibling, 0, 3, 4, 5);

        UndoJourneys ready = Texts.loaded("trips;stock 3 1;stock 0 1;journey 0 1*1:1 again 5 and 1*1:1;");
        ready.pass(1);
        isStates("a ready one is not begun", ready, 0, 0, 4);
        is("its repeats are as they were left", 4, ready.step(0, 0, 6));
    }

    private void ticksOfGuards() {
        UndoJourneys x = Texts.loaded("trips;stock 9 1;wait 2;journey 0 0*1:2;journey 0 0*1:1;journey 0 0*1:9;journey 1 0*1:1;");
        x.pass(1);
        isStates("waits", x, 1, 1);
        is("one holds it", 1, x.stock(0, 2));
        x.pass(1);
        isStates("waits", x, 1, 1);
        isStates("waits", x, 3, 1);
        x.pass(1);
        is("the first one is done", 3, x.journey(0, 0));
        isStates("begins in that tick", x, 1, 2);
        isStates("has waited in two ticks before", x, 2, 4);
        isStates("has waited in one before", x, 3, 1);
        x.pass(1);
        isStates("has waited long enough", x, 3, 2);

        UndoJourneys own = Texts.loaded("trips;stock 9 1;journey 0 0*1:2 and 0*1:2 then 0*1:1;journey 0 0*1:1;");
        own.pass(1);
        isStates("its own steps do not count", own, 0, 2, 2, 0);
        own.pass(3);
        isStates("a done step holds", own, 0, 3, 3, 2);
        is("one holds it still", 1, own.stock(0, 2));
        isStates("the other one waits on", own, 1, 1);

        UndoJourneys guard = Texts.loaded("trips;stock 9 3;journey 0 0*1:9;journey 0 0*1:9;journey 0 0*1:9;journey 0 0*1:9;");
        guard.pass(1);
        is("a guard of 3", 3, guard.stock(0, 2));
        isStates("the fourth waits", guard, 3, 1);

        // Journey 2 waits in two ticks, lacks in one, and then would wait in a third one.
        UndoJourneys sum = Texts.loaded("trips;stock 2 1;wait 2;"
            + "journey 0 0*1:2;journey 3 0*1:9;journey 0 0*2:1 again 1;");
        sum.pass(3);
        is("it lacks when the guard lets it", 0, sum.step(2, 0, 6));
        isStates("a repeat is left", sum, 2, 1);
        sum.pass(1);
        isStates("a lack between them does not end the count of waits", sum, 2, 4);
    }

    private void ticksOfStages() {
        UndoJourneys x = Texts.loaded("trips;stock 9 1;journey 0 0*1:1 and 0*1:2 then 0*1:1 and 0*1:1 then 0*1:1;");
        x.pass(2);
        isStates("one of two is done", x, 0, 3, 2, 0, 0, 0);
        is("the stage stays", 0, x.journey(0, 4));
        x.pass(1);
        isStates("the next stage is ready", x, 0, 3, 3, 1, 1, 0);
        is("the next stage", 1, x.journey(0, 4));
        x.pass(1);
        isStates("it begins a tick later", x, 0, 3, 3, 2, 2, 0);
        x.pass(2);
        is("not yet done", 1, x.journey(0, 0));
        is("done", 1, x.pass(1));
        is("done at", 6, x.journey(0, 5));
    }

    private void ticksOfUndoing() {
        UndoJourneys x = Texts.loaded("trips;patience 3;stock 9 1;stock 0 1;"
            + "journey 0 0*1:1 undo 2 then 0*2:1 undo 2 then 0*3:1 then 1*1:1;journey 13 0*9:1;");
        x.pass(7);
        is("undoing from the next tick on", 2, x.journey(0, 0));
        isStates("nothing is undone in that tick", x, 0, 3, 3, 3, 4);
        is("the level", 3, x.stock(0, 0));
        x.pass(1);
        isStates("the last one first", x, 0, 3, 3, 5, 4);
        is("the level", 6, x.stock(0, 0));
        x.pass(2);
        is("two undos failed", 2, x.state(9));
        is("no failures left", 0, x.step(0, 1, 5));
        isStates("failed undos", x, 0, 3, 3, 5, 4);
        x.pass(1);
        isStates("undone behind its failures", x, 0, 3, 5, 5, 4);
        x.pass(2);
        is("a step has its own patience", 2, x.journey(0, 0));
        is("four undos failed", 4, x.state(9));
        x.pass(1);
        isStates("the amount comes back behind the forward steps", x, 1, 1);
        is("the level", 9, x.stock(0, 0));
        x.pass(1);
        is("undone", 4, x.journey(0, 0));
        is("undone at", 14, x.journey(0, 5));

        UndoJourneys parked = after(PARKED, 5);
        is("one undo failed", 1, parked.state(9));
        is("not parked yet", 2, parked.journey(0, 0));
        parked.pass(1);
        is("parked by the patience", 5, parked.journey(0, 0));
        parked.pass(9);
        is("parked for good", 5, parked.journey(0, 0));
        is("two undos failed", 2, parked.state(9));
    }

    // Promise 14

    private void settle() {
        UndoJourneys x = Texts.loaded(PARKED + "journey 9 1*1:1;");
        check.raises("settle one to come", STATE, () -> x.settle(0));
        check.raises("settle no journey", INDEX, () -> x.settle(2));
        check.raises("settle journey -1", INDEX, () -> x.settle(-1));
        x.pass(6);
        is("settle", 0, x.settle(0));
        is("the amount is put back", 9, x.stock(0, 0));
        isStates("settled", x, 0, 5, 4);
        isJourney("settled", x, 0, 2, 0, 2, 2, -1, -1, 0);
        is("failures stay", 1, x.step(0, 0, 5));
        check.raises("settle again", STATE, () -> x.settle(0));
        is("settle and pass", 1, x.pass(1));
        check.raises("settle an undone one", STATE, () -> x.settle(0));

        UndoJourneys two = after("trips;patience 1;stock 9 1;stock 0 1;"
            + "journey 0 0*1:1 undo 1 then 0*2:1 undo 2 then 1*1:1;", 7);
        is("settle the last one", 1, two.settle(0));
        isStates("settle the last one", two, 0, 3, 5, 4);
        two.pass(1);
        is("parked by the one before", 5, two.journey(0, 0));
        is("settle the one before", 0, two.settle(0));
        is("all is back", 9, two.stock(0, 0));
    }

    // Promise 15

    private void writeOff() {
        UndoJourneys x = Texts.loaded(PARKED);
        check.raises("writeOff one to come", STATE, () -> x.writeOff(0));
        check.raises("writeOff no journey", INDEX, () -> x.writeOff(1));
        check.raises("writeOff journey -1", INDEX, () -> x.writeOff(-1));
        x.pass(6);
        is("writeOff", 0, x.writeOff(0));
        is("the amount is not put back", 7, x.stock(0, 0));
        isStates("written off", x, 0, 6, 4);
        isJourney("written off", x, 0, 2, 0, 2, 2, -1, -1, 0);
        check.raises("writeOff again", STATE, () -> x.writeOff(0));
        is("writeOff and pass", 1, x.pass(1));
        is("undone", 4, x.journey(0, 0));
        is("written off for good", 6, x.step(0, 0, 4));
    }

    // Promise 16

    private void goForward() {
        UndoJourneys x = Texts.loaded(PARKED);
        check.raises("goForward one to come", STATE, () -> x.goForward(0));
        check.raises("goForward no journey", INDEX, () -> x.goForward(1));
        check.raises("goForward journey -1", INDEX, () -> x.goForward(-1));
        x.pass(6);
        is("goForward", 1, x.goForward(0));
        isStates("let go forward", x, 0, 3, 1);
        isJourney("let go forward", x, 0, 1, 0, 2, 2, 1, -1, 0);
        is("failures stay", 1, x.step(0, 0, 5));
        is("repeats of a done one stay", 4, x.step(0, 0, 6));
        x.pass(1);
        is("it fails again", 2, x.journey(0, 0));
        x.pass(1);
        is("the patience begins anew", 2, x.journey(0, 0));
        is("three undos failed", 3, x.state(9));
        x.pass(1);
        isStates("undone at last", x, 0, 5, 4);
        goForwardToAnEarlierStage();
        goForwardWithWaits();
    }

    private void goForwardToAnEarlierStage() {
        // Stages: 0 and 1 | 2 | 3; the failure of 3 undoes 2 (it is written off) and 1, then 0 parks.
        UndoJourneys x = Texts.loaded("trips;patience 1;stock 20 1;stock 0 1;"
            + "journey 0 0*1:1 undo 5 and 0*2:1 again 3 then 0*4:1 undo 1 then 1*1:1 again 1;");
        x.pass(8);
        is("parked at the stage of 2", 5, x.journey(0, 0));
        is("written off", 2, x.writeOff(0));
        x.pass(2);
        isStates("parked at the first one", x, 0, 3, 5, 6, 4);
        is("parked at the first one", 5, x.journey(0, 0));
        is("the stage of the undone one", 0, x.goForward(0));
        isStates("let go forward", x, 0, 3, 1, 6, 0);
        is("repeats as in the text", 1, x.step(0, 3, 6));
        is("repeats as in the text", 3, x.step(0, 1, 6));
        x.restock(1, 1);
        x.pass(2);
        is("the stage written off is the present one", 1, x.journey(0, 4));
        isStates("the stage written off", x, 0, 3, 3, 6, 0);
        x.pass(1);
        is("it takes a tick", 2, x.journey(0, 4));
        isStates("the last stage is ready", x, 0, 3, 3, 6, 1);
        x.pass(2);
        is("done", 3, x.journey(0, 0));
        is("done at", 14, x.journey(0, 5));
        is("what it keeps", 3, x.stock(0, 4));
        is("what is written off", 4, x.stock(0, 5));
    }

    private void goForwardWithWaits() {
        // Journey 1 waits for stock 1 at 2 and 3, fails at 4, parks at 5; let go forward, it waits anew.
        UndoJourneys x = Texts.loaded("trips;patience 1;wait 2;stock 9 2;stock 9 1;journey 0 1*1:60;"
            + "journey 0 0*1:1 undo 1 then 1*1:1;");
        x.pass(6);
        is("parked", 5, x.journey(1, 0));
        is("goForward", 1, x.goForward(1));
        x.pass(2);
        isStates("waits anew", x, 1, 3, 1);
        x.pass(1);
        isStates("fails behind as many waits", x, 1, 3, 4);
    }

    // Promise 17

    private void restock() {
        UndoJourneys x = Texts.loaded("trips;stock 9999 1;stock 0 1;");
        is("restock beyond 9999", 10998, x.restock(0, 999));
        is("restock 1", 1, x.restock(1, 1));
        is("the level", 1, x.stock(1, 0));
        is("the other level", 10998, x.stock(0, 0));
        check.raises("restock 0", ARGUMENT, () -> x.restock(0, 0));
        check.raises("restock -1", ARGUMENT, () -> x.restock(0, -1));
        check.raises("restock 1000", ARGUMENT, () -> x.restock(0, 1000));
        check.raises("restock no stock", INDEX, () -> x.restock(2, 0));
        check.raises("restock stock -1", INDEX, () -> x.restock(-1, 1));
        is("restock that threw is no change", 2, x.undo());
    }

    // Promise 18

    private void undo() {
        UndoJourneys x = new UndoJourneys();
        long none = x.checksum();
        Texts.load(x, PARKED);
        long loaded = x.checksum();
        x.pass(6);
        long parked = x.checksum();
        x.settle(0);
        is("undo settle", 2, x.undo());
        is("undo settle: data", parked, x.checksum());
        x.writeOff(0);
        is("undo writeOff", 2, x.undo());
        is("undo writeOff: data", parked, x.checksum());
        x.goForward(0);
        is("undo goForward", 2, x.undo());
        is("undo goForward: data", parked, x.checksum());
        x.restock(0, 5);
        is("undo restock", 2, x.undo());
        is("undo restock: data", parked, x.checksum());
        is("undo pass", 1, x.undo());
        is("undo pass: data", loaded, x.checksum());
        is("a text with an error", -2, Texts.load(x, "trips;x"));
        Texts.append(x, "trips;wait 7;");
        is("undo load", 0, x.undo());
        is("undo load: data", none, x.checksum());
        is("undo nothing", -1, x.undo());
        is("undo nothing: data", none, x.checksum());
        is("undo leaves the error offset", 6, x.errorOffset());
        is("undo leaves the buffer", 0, x.load(13));
        is("undo leaves the buffer: data", 7, x.state(4));
        undoOfEight();
        undoOfManyJourneys();
    }

    /** Behind an undo all goes on as if the change had not been made. */
    private void undoOfManyJourneys() {
        for (int time = 0; time < FULL_TICKS; time++) {
            UndoJourneys x = after(FULL, time + 1);
            UndoJourneys y = after(FULL, time + 1);
            y.pass(1 + time);
            is("undo at " + time, 2, y.undo());
            is("undo at " + time + ": data", x.checksum(), y.checksum());
            for (int journey = 0; journey < 7; journey++) {
                is("undo at " + time + ": what comes", x.restsIn(journey), y.restsIn(journey));
            }
        }
    }

    private void undoOfEight() {
        UndoJourneys x = Texts.loaded("trips;stock 0 1;");
        for (int i = 1; i <= 10; i++) {
            x.restock(0, 1);
        }
        for (int left = 7; left >= 5; left--) {
            is("undo", left, x.undo());
        }
        is("level", 7, x.stock(0, 0));
        x.restock(0, 100);
        x.pass(1);
        for (int left = 6; left >= 0; left--) {
            is("undo", left, x.undo());
        }
        is("level behind all undos", 2, x.stock(0, 0));
        is("undo a final one", -1, x.undo());
        is("level behind all undos", 2, x.stock(0, 0));
        for (int i = 1; i <= 8; i++) {
            x.pass(1);
        }
        for (int left = 7; left >= 0; left--) {
            is("undo of pass", left, x.undo());
            is("time behind undo", left, x.state(0));
        }
        is("undo a final one", -1, x.undo());
    }

    // Promise 19

    private void checksum() {
        long none = 0;
        for (int n : new int[] {0, 0, 0, 0, 5, 3, 0, 0, 0, 0}) {
            none = 31 * none + n;
        }
        is("checksum of a new object", none, new UndoJourneys().checksum());
        UndoJourneys x = after(TRIP + "journey 7 0*1:1 undo 2 again 3;", 5);
        int[] numbers = {5, 2, 2, 4, 5, 3, 0, 0, 0, 0,
            6, 1, 1, 4, 0, 0, 2, 2, 1, 3, 0, 0,
            2, 0, 2, 3, -1, -1, 7, 3, 0, 0, 3, 0, 0, 4, 0, 0,
            0, 7, 1, 1, -1, -1, 0, 0, 2, 3};
        long due = 0;
        for (int n : numbers) {
            due = 31 * due + n;
        }
        is("checksum", due, x.checksum());
    }
}
