import java.math.BigInteger;
import java.util.ArrayList;
import java.util.List;
import java.util.function.BiConsumer;
import java.util.function.Consumer;

/** The sentences about arguments, refused calls, changes and the checksum that name a boundary case, each with its own test. */
public final class CallBoundariesTest extends Boundaries {
    private static final int LEAST = Integer.MIN_VALUE;
    private static final int MOST = Integer.MAX_VALUE;

    private CallBoundariesTest() {
        super("CallBoundariesTest");
    }

    public static void main(String[] args) {
        CallBoundariesTest test = new CallBoundariesTest();
        test.constants();
        test.newObject();
        test.newObjectRefuses();
        test.beforeFirstLoad();
        test.calls512();
        test.noSuchJourney();
        test.noSuchStock();
        test.allPlacesTaken();
        test.whatOfState();
        test.numbersOfState();
        test.whatOfStock();
        test.numbersOfStock();
        test.whatOfJourney();
        test.numbersOfJourney();
        test.noSuchStep();
        test.whatOfStep();
        test.ticksOfStateAfter();
        test.ticksOfPass();
        test.timeOf9999();
        test.endsInPass();
        test.notParked();
        test.amountOfRestock();
        test.levelBeyond9999();
        test.firstExceptionCounts();
        test.throwingChangesNothing();
        test.queriesChangeNothing();
        test.whatIsAChange();
        test.whatIsNoChange();
        test.eightChanges();
        test.finalChanges();
        test.undoNothing();
        test.undoOfEachChange();
        test.undoKeepsBufferAndOffset();
        test.checksumOrder();
        test.checksumWraps();
        test.end();
    }

    private void constants() {
        sentence("The constants:");
        is("SYNTAX_ERROR", -2, UndoJourneys.SYNTAX_ERROR);
        is("OUT_OF_RANGE", -3, UndoJourneys.OUT_OF_RANGE);
        is("TOO_MANY", -4, UndoJourneys.TOO_MANY);
    }

    private void newObject() {
        sentence("Creates an object without stocks and journeys, with an empty input buffer.");
        UndoJourneys x = new UndoJourneys();
        int[] due = {0, 0, 0, 0, 5, 3, 0, 0, 0, 0};
        for (int what = 0; what < due.length; what++) {
            is("state " + what, due[what], x.state(what));
        }
        is("errorOffset", -1, x.errorOffset());
        is("undo", -1, x.undo());
        is("a pass without journeys", 0, x.pass(200));
        is("the time", 200, x.state(0));
        is("it is a change", 0, x.undo());
        is("the time behind undo", 0, x.state(0));
    }

    private void newObjectRefuses() {
        sentence("In the methods, IndexOutOfBoundsException is thrown if a parameter named stock or journey is not the index "
            + "of such a thing.");
        for (int index : new int[] {-1, 0, 1}) {
            for (Consumer<UndoJourneys> call : callsOfJourney(index)) {
                refuses("journey " + index + " of a new object", INDEX, UndoJourneys::new, call);
            }
            for (Consumer<UndoJourneys> call : callsOfStock(index)) {
                refuses("stock " + index + " of a new object", INDEX, UndoJourneys::new, call);
            }
        }
    }

    private void beforeFirstLoad() {
        sentence("Before the first successful load there are no stocks and no journeys; wait is 5 and patience is 3.");
        UndoJourneys x = new UndoJourneys();
        is("a text with an error", -3, Texts.load(x, "trips;wait 9;patience 9;stock 1 1;journey 0 0*1:0;"));
        int[] due = {0, 0, 0, 0, 5, 3};
        for (int what = 0; what < due.length; what++) {
            is("state " + what, due[what], x.state(what));
        }
        is("nothing to undo", -1, x.undo());
        refuses("a stock", INDEX, () -> {
            UndoJourneys y = new UndoJourneys();
            Texts.load(y, "trips;stock 1 1;;");
            return y;
        }, y -> y.stock(0, 0));
    }

    private void calls512() {
        sentence("An object is used for at most 512 calls after it has been made");
        UndoJourneys stock = new UndoJourneys();
        stock.append(0x74726970, 0x733B7374, 0x6F636B20, 0x39393939, 0x20313B20); // trips;stock 9999 1;
        is("call 2", 0, stock.load(20));
        for (int call = 3; call <= 511; call++) {
            is("call " + call, 9999 + (call - 2) * 999, stock.restock(0, 999));
        }
        is("call 512", 9999 + 509 * 999, stock.stock(0, 0));
        UndoJourneys time = new UndoJourneys();
        for (int call = 1; call <= 49; call++) {
            time.pass(200);
        }
        time.pass(199);
        for (int call = 51; call <= 511; call++) {
            is("call " + call, 9999, time.state(0));
        }
        is("call 512", 7, time.undo());
        UndoJourneys loads = new UndoJourneys();
        for (int call = 1; call <= 511; call++) {
            is("call " + call, -2, loads.load(0));
        }
        is("call 512", 20, loads.append(0, 0, 0, 0, 0));
    }

    /** Each call that has a parameter named journey; all its other arguments are good for a parked journey. */
    private static List<Consumer<UndoJourneys>> callsOfJourney(int journey) {
        List<Consumer<UndoJourneys>> calls = new ArrayList<>();
        calls.add(x -> x.journey(journey, 0));
        calls.add(x -> x.step(journey, 0, 0));
        calls.add(x -> x.owed(journey, 0));
        calls.add(x -> x.restsIn(journey));
        calls.add(x -> x.stateAfter(journey, 0));
        calls.add(x -> x.help(journey, 0));
        calls.add(x -> x.settle(journey));
        calls.add(x -> x.writeOff(journey));
        calls.add(x -> x.goForward(journey));
        return calls;
    }

    private static List<Consumer<UndoJourneys>> callsOfStock(int stock) {
        List<Consumer<UndoJourneys>> calls = new ArrayList<>();
        calls.add(x -> x.stock(stock, 0));
        calls.add(x -> x.help(0, stock));
        calls.add(x -> x.restock(stock, 1));
        return calls;
    }

    private void noSuchJourney() {
        sentence("IndexOutOfBoundsException is thrown if a parameter named stock or journey is not the index of such a thing");
        for (int index : new int[] {LEAST, -8, -1, JOURNEYS, JOURNEYS + 1, 8, MOST}) {
            int number = 0;
            for (Consumer<UndoJourneys> call : callsOfJourney(index)) {
                number++;
                refuses("journey " + index + ", call " + number, INDEX, call);
            }
        }
        for (Consumer<UndoJourneys> call : callsOfJourney(PARKED)) {
            UndoJourneys x = busy();
            call.accept(x);
            is("the last journey, the time", 6, x.state(0));
        }
    }

    private void noSuchStock() {
        sentence("IndexOutOfBoundsException is thrown if a parameter named stock or journey is not the index of such a thing");
        for (int index : new int[] {LEAST, -6, -1, STOCKS, STOCKS + 1, 6, MOST}) {
            int number = 0;
            for (Consumer<UndoJourneys> call : callsOfStock(index)) {
                number++;
                refuses("stock " + index + ", call " + number, INDEX, call);
            }
        }
        for (Consumer<UndoJourneys> call : callsOfStock(STOCKS - 1)) {
            UndoJourneys x = busy();
            call.accept(x);
            is("the last stock, the time", 6, x.state(0));
        }
    }

    private void allPlacesTaken() {
        sentence("There are at most 6 stocks, with indexes from 0.");
        UndoJourneys x = full();
        for (int stock = 0; stock < 6; stock++) {
            is("level of stock " + stock, stock, x.stock(stock, 0));
            is("guard of stock " + stock, stock + 1, x.stock(stock, 1));
        }
        sentence("There are at most 8 journeys, with indexes from 0.");
        for (int journey = 0; journey < 8; journey++) {
            is("start of journey " + journey, journey, x.journey(journey, 1));
            is("steps of journey " + journey, 5, x.journey(journey, 3));
            is("amount of its last step", journey + 1, x.step(journey, 4, 2));
        }
        isSum("all of them", x);
        is("restock the last one", 14, x.restock(5, 9));
        is("restsIn of the last one", 11, x.restsIn(7));
        is("stateAfter of the last one", 2, x.stateAfter(7, 10));
        is("stateAfter of the last one", 4, x.stateAfter(7, 11));
        is("help for the last one by the last one", -1, x.help(7, 5));
        for (int i = 0; i < 12; i++) {
            x.pass(1);
        }
        is("the last one", 4, x.journey(7, 0));
        for (Consumer<UndoJourneys> call : callsOfJourney(8)) {
            refuses("journey 8 of 8", INDEX, CallBoundariesTest::full, call);
        }
        for (Consumer<UndoJourneys> call : callsOfStock(6)) {
            refuses("stock 6 of 6", INDEX, CallBoundariesTest::full, call);
        }
        refuses("step 5 of 5 of the last one", ELEMENT, CallBoundariesTest::full, y -> y.step(7, 5, 0));
        for (Consumer<UndoJourneys> call : callsOfJourney(0)) {
            refuses("a journey of none beside stocks", INDEX, () -> Texts.loaded("trips;stock 1 1;"), call);
        }
    }

    /** All places are taken: 6 stocks, 8 journeys and 40 steps; the first step of each journey lacks. */
    private static UndoJourneys full() {
        StringBuilder b = new StringBuilder("trips;");
        for (int stock = 0; stock < 6; stock++) {
            b.append("stock ").append(stock).append(' ').append(stock + 1).append(';');
        }
        for (int journey = 0; journey < 8; journey++) {
            b.append("journey ").append(journey).append(" 0*1:1 and5*1:1 then5*1:1and4*1:1and3*").append(journey + 1).append(":1;");
        }
        return Texts.loaded(b.toString());
    }

    private void isRefused(String what, BiConsumer<UndoJourneys, Integer> call, int... bad) {
        for (int n : bad) {
            refuses(what + " " + n, ARGUMENT, x -> call.accept(x, n));
        }
    }

    private void whatOfState() {
        sentence("Throws `IllegalArgumentException` if what is out of range");
        isRefused("state", (x, n) -> x.state(n), LEAST, -1, 10, 11, MOST);
        int[] due = {6, 2, 6, 10, 5, 1, 1, 1, 1, 1};
        for (int what = 0; what < due.length; what++) {
            is("state " + what, due[what], busy().state(what));
        }
    }

    private void numbersOfState() {
        sentence("`what`: 0 the time, 1 stocks, 2 journeys, 3 steps in all, 4 wait, 5 patience, 6 journeys that are done, "
            + "7 undone, 8 parked, 9 undos that failed so far");
        UndoJourneys done = after("trips;stock 8 9;" + "journey 0 0*1:1;".repeat(8), 2);
        UndoJourneys undone = after("trips;stock 0 9;" + "journey 0 0*1:1;".repeat(8), 2);
        UndoJourneys parked = after("trips;stock 8 9;stock 0 1;" + "journey 0 0*1:1 undo 3 and 1*1:1;".repeat(8), 5);
        for (int what = 6; what <= 8; what++) {
            is("all are done: state " + what, what == 6 ? 8 : 0, done.state(what));
            is("all are undone: state " + what, what == 7 ? 8 : 0, undone.state(what));
            is("all are parked: state " + what, what == 8 ? 8 : 0, parked.state(what));
        }
        is("undos that failed", 24, parked.state(9));
        is("none of them in the next text", 0, Texts.load(parked, "trips;"));
        is("undos that failed", 0, parked.state(9));
        is("undo", 6, parked.undo());
        is("undos that failed", 24, parked.state(9));
    }

    private void whatOfStock() {
        sentence("Throws `IllegalArgumentException` if what is out of range");
        isRefused("stock 0", (x, n) -> x.stock(0, n), LEAST, -1, 6, 7, MOST);
        isRefused("the last stock", (x, n) -> x.stock(STOCKS - 1, n), -1, 6);
    }

    private void numbersOfStock() {
        sentence("`what`: 0 its level, 1 its guard, 2 the number of journeys that hold it, 3 the sum of the amounts of its steps "
            + "that are running or done in journeys that have not ended, 4 the same sum of those in journeys that are done, "
            + "5 the sum of the amounts of its steps that are written off");
        // Journey 1 holds 2, 2 of journey 2's three are still done, journey 3 is done with 3, journey 5 is parked with 5.
        isStock(busy(), 0, 78, 9, 3, 9, 3, 0);
        isStock(busy(), 1, 0, 1, 0, 0, 0, 0);
        UndoJourneys x = busy();
        x.writeOff(PARKED);
        isStock(x, 0, 78, 9, 2, 4, 3, 5);
        x.pass(1);
        isStock(x, 0, 79, 9, 2, 3, 3, 5);
        isStock(Texts.loaded("trips;stock 0 1;"), 0, 0, 1, 0, 0, 0, 0);
        UndoJourneys most = after("trips;stock 9999 9;journey 0 0*999:9 and 0*999:9 and 0*999:9;journey 0 0*999:1;", 5);
        isStock(most, 0, 9999 - 4 * 999, 9, 1, 3 * 999, 999, 0);
        UndoJourneys all = after("trips;stock 99 9;" + "journey 0 0*1:1;journey 0 0*2:9;".repeat(4), 2);
        isStock(all, 0, 87, 9, 4, 8, 4, 0);
    }

    private void isStock(UndoJourneys x, int stock, int... due) {
        for (int what = 0; what < due.length; what++) {
            is("stock(" + stock + ", " + what + ")", due[what], x.stock(stock, what));
        }
    }

    private void whatOfJourney() {
        sentence("Throws `IllegalArgumentException` if what is out of range");
        for (int journey = 0; journey < JOURNEYS; journey++) {
            int j = journey;
            isRefused("journey " + j, (x, n) -> x.journey(j, n), LEAST, -1, 7, 8, MOST);
        }
    }

    private void numbersOfJourney() {
        sentence("`what`: 0 its state, 1 its start, 2 the number of its stages, 3 the number of its steps, 4 its present stage "
            + "(-1 if it does not go forward), 5 the time at which it was done, undone or parked (-1 if it is none of these), "
            + "6 what it owes: the sum of the amounts of its steps that are done, if it is undoing or parked, otherwise 0");
        int[][] due = {{0, 999, 1, 1, -1, -1, 0}, {1, 0, 1, 1, 0, -1, 0}, {2, 2, 2, 4, -1, -1, 2}, {3, 0, 1, 1, -1, 1, 0},
            {4, 0, 1, 1, -1, 1, 0}, {5, 0, 2, 2, -1, 3, 5}};
        UndoJourneys x = busy();
        for (int journey = 0; journey < JOURNEYS; journey++) {
            for (int what = 0; what < 7; what++) {
                is("journey(" + journey + ", " + what + ")", due[journey][what], x.journey(journey, what));
            }
        }
        is("done steps of one that goes forward are not owed", 0,
            after("trips;stock 9 1;journey 0 0*1:1 then 0*1:9;", 5).journey(0, 6));
        is("done at the time 0 is not possible, undone at 1", 1, after("trips;stock 0 1;journey 0 0*1:1;", 9).journey(0, 5));
    }

    private void noSuchStep() {
        sentence("Throws `NoSuchElementException` if there is no such step");
        int[] steps = {1, 1, 4, 1, 1, 2};
        for (int journey = 0; journey < JOURNEYS; journey++) {
            int j = journey;
            for (int step : new int[] {LEAST, -1, steps[journey], steps[journey] + 1, 40, MOST}) {
                refuses("step(" + j + ", " + step + ", 0)", ELEMENT, x -> x.step(j, step, 0));
            }
            is("the last step of " + j, j, busy().step(j, steps[j] - 1, 4) < 0 ? -1 : j);
        }
    }

    private void whatOfStep() {
        sentence("`what`: 0 its stage, 1 its stock, 2 its amount, 3 its duration, 4 its state, 5 the failures and "
            + "6 the repeats that it has left");
        int[][] due = {{0, 0, 5, 1, 3, 1, 0}, {1, 1, 1, 1, 4, 0, 0}};
        UndoJourneys x = busy();
        for (int step = 0; step < due.length; step++) {
            for (int what = 0; what < 7; what++) {
                is("step(5, " + step + ", " + what + ")", due[step][what], x.step(PARKED, step, what));
            }
        }
        sentence("Throws `IllegalArgumentException` if what is out of range");
        isRefused("step 0 of 5", (y, n) -> y.step(PARKED, 0, n), LEAST, -1, 7, 8, MOST);
        isRefused("step 1 of 5", (y, n) -> y.step(PARKED, 1, n), -1, 7);
    }

    private void ticksOfStateAfter() {
        sentence("`ticks`: 0 to 3000");
        isRefused("stateAfter", (x, n) -> x.stateAfter(FORWARD, n), LEAST, -1, 3001, MOST);
        is("stateAfter 0", 1, busy().stateAfter(FORWARD, 0));
        is("stateAfter 1", 1, busy().stateAfter(FORWARD, 1));
        is("stateAfter 3000", 3, busy().stateAfter(FORWARD, 3000));
    }

    private void ticksOfPass() {
        sentence("`ticks`: 1 to 200");
        isRefused("pass", (x, n) -> x.pass(n), LEAST, -1, 0, 201, 9999, MOST);
        for (int ticks : new int[] {1, 2, 199, 200}) {
            UndoJourneys x = busy();
            x.pass(ticks);
            is("the time behind pass(" + ticks + ")", 6 + ticks, x.state(0));
        }
    }

    private static UndoJourneys at(int time) {
        UndoJourneys x = Texts.loaded("trips;stock 1 1;journey 999 0*1:1;");
        passAll(x, time);
        return x;
    }

    private void timeOf9999() {
        sentence("Throws `IllegalArgumentException` if ticks is out of range, or the time would exceed 9999");
        for (int[] d : new int[][] {{9999, 1}, {9999, 200}, {9998, 2}, {9990, 10}, {9800, 200}}) {
            refuses("pass(" + d[1] + ") at " + d[0], ARGUMENT, () -> at(d[0]), x -> x.pass(d[1]));
        }
        for (int[] d : new int[][] {{9998, 1}, {9990, 9}, {9800, 199}, {9799, 200}}) {
            UndoJourneys x = at(d[0]);
            is("pass(" + d[1] + ") at " + d[0], 0, x.pass(d[1]));
            is("the time", 9999, x.state(0));
        }
        refuses("pass(201) at 9999", ARGUMENT, () -> at(9999), x -> x.pass(201));
        UndoJourneys x = at(9999);
        x.undo();
        is("pass to 9999 behind undo", 0, x.pass(199));
        is("load at 9999", 0, Texts.load(x, "trips;"));
        is("the time", 0, x.state(0));
        is("pass behind load", 0, x.pass(200));
    }

    private void endsInPass() {
        sentence("Returns the number of journeys that end in them (done or undone).");
        is("none", 0, busy().pass(2));
        is("one more is undone", 1, busy().pass(3));
        is("two", 2, busy().pass(94));
        is("those that ended before do not count", 2, busy().pass(200));
        is("all eight are done", 8, Texts.loaded("trips;stock 8 9;" + "journey 0 0*1:1;".repeat(8)).pass(2));
        is("all eight, not yet", 0, Texts.loaded("trips;stock 8 9;" + "journey 0 0*1:1;".repeat(8)).pass(1));
        is("four are done, four undone", 8, Texts.loaded("trips;stock 4 9;" + "journey 0 0*1:1;".repeat(8)).pass(2));
        is("a parked one does not end", 0, Texts.loaded("trips;stock 1 1;stock 0 1;journey 0 0*1:1 undo 3 and 1*1:1;").pass(200));
    }

    private void notParked() {
        sentence("Throws `IllegalStateException` if it is not parked");
        for (int journey : new int[] {TO_COME, FORWARD, UNDOING, DONE, UNDONE}) {
            refuses("settle one in the state " + journey, STATE, x -> x.settle(journey));
            refuses("writeOff one in the state " + journey, STATE, x -> x.writeOff(journey));
            refuses("goForward one in the state " + journey, STATE, x -> x.goForward(journey));
        }
        is("settle a parked one", 0, busy().settle(PARKED));
        is("writeOff a parked one", 0, busy().writeOff(PARKED));
        is("goForward a parked one", 1, busy().goForward(PARKED));
        for (Consumer<UndoJourneys> first : callsOfJourney(PARKED).subList(6, 9)) {
            for (Consumer<UndoJourneys> second : callsOfJourney(PARKED).subList(6, 9)) {
                refuses("a second time", STATE, () -> {
                    UndoJourneys x = busy();
                    first.accept(x);
                    return x;
                }, second);
            }
        }
    }

    private void amountOfRestock() {
        sentence("`amount`: 1 to 999");
        isRefused("restock 0", (x, n) -> x.restock(0, n), LEAST, -1, 0, 1000, MOST);
        isRefused("restock the last one", (x, n) -> x.restock(STOCKS - 1, n), -1, 0, 1000);
        for (int amount : new int[] {1, 2, 998, 999}) {
            UndoJourneys x = busy();
            is("restock " + amount, 78 + amount, x.restock(0, amount));
            is("its level", 78 + amount, x.stock(0, 0));
            is("no other level", 0, x.stock(1, 0));
        }
    }

    private void levelBeyond9999() {
        sentence("A stock has a level (0 to 9999 at first)");
        UndoJourneys x = Texts.loaded("trips;stock 9999 1;stock 9999 1;stock 0 1;journey 0 1*999:1 then 2*1:1;");
        is("restock to 10000", 10000, x.restock(0, 1));
        is("restock beyond", 10999, x.restock(0, 999));
        x.pass(3);
        is("restock what lacks 999", 9999, x.restock(1, 999));
        x.pass(2);
        is("an amount put back", 10998, x.stock(1, 0));
    }

    private void firstExceptionCounts() {
        sentence("If several exceptions apply to a call, the one that is listed first with the method is thrown.");
        for (int bad : new int[] {-1, JOURNEYS}) {
            refuses("stock", INDEX, x -> x.stock(bad, 6));
            refuses("journey", INDEX, x -> x.journey(bad, 7));
            refuses("step, all three", INDEX, x -> x.step(bad, 9, 7));
            refuses("step, the first and the last", INDEX, x -> x.step(bad, 0, -1));
            refuses("owed", INDEX, x -> x.owed(bad, -1));
            refuses("stateAfter", INDEX, x -> x.stateAfter(bad, 3001));
            refuses("help", INDEX, x -> x.help(bad, bad));
            refuses("restock", INDEX, x -> x.restock(bad, 0));
        }
        refuses("step, the last two", ELEMENT, x -> x.step(0, 1, 7));
        refuses("step, the last two", ELEMENT, x -> x.step(0, -1, -1));
    }

    private void throwingChangesNothing() {
        sentence("A method that throws an exception changes nothing.");
        List<Consumer<UndoJourneys>> calls = new ArrayList<>();
        calls.add(x -> x.load(21));
        calls.add(x -> x.state(10));
        calls.add(x -> x.stock(0, 6));
        calls.add(x -> x.journey(0, 7));
        calls.add(x -> x.step(0, 0, 7));
        calls.add(x -> x.stateAfter(0, 3001));
        calls.add(x -> x.pass(201));
        calls.add(x -> x.restock(0, 1000));
        for (Consumer<UndoJourneys> call : calls) {
            refuses("an argument out of range", ARGUMENT, call);
            // As many changes as can be undone: one more of them would make the oldest one final.
            refuses("an argument out of range, behind 8 changes", ARGUMENT, () -> {
                UndoJourneys x = busy();
                for (int i = 0; i < 6; i++) {
                    x.restock(0, 1);
                }
                return x;
            }, call);
        }
    }

    private void queriesChangeNothing() {
        sentence("The changing methods are load (when it succeeds), pass, settle, writeOff, goForward and restock");
        List<Consumer<UndoJourneys>> calls = new ArrayList<>(callsOfJourney(PARKED).subList(0, 6));
        for (int journey = 0; journey < JOURNEYS; journey++) {
            int j = journey;
            calls.add(x -> x.restsIn(j));
            calls.add(x -> x.stateAfter(j, 3000));
            calls.add(x -> x.help(j, 0));
            calls.add(x -> x.help(j, 1));
        }
        calls.add(x -> x.stock(0, 3));
        calls.add(x -> x.state(9));
        calls.add(x -> x.errorOffset());
        calls.add(x -> x.checksum());
        for (Consumer<UndoJourneys> call : calls) {
            UndoJourneys x = busy();
            call.accept(x);
            sameInAll("a call that tells", busy(), x);
        }
    }

    private void whatIsAChange() {
        sentence("each such call that does not throw an exception is a change, also if all data stay as they were");
        UndoJourneys same = new UndoJourneys();
        is("a text of nothing", 0, Texts.load(same, "trips;"));
        is("as before", new UndoJourneys().checksum(), same.checksum());
        is("it is a change", 0, same.undo());
        is("there is no other", -1, same.undo());
        Texts.load(same, "trips;stock 1 1;");
        Texts.load(same, "trips;stock 1 1;");
        is("the same text again", 1, same.undo());
        for (Consumer<UndoJourneys> call : changes()) {
            UndoJourneys x = busy();
            call.accept(x);
            is("load, pass and this", 2, x.undo());
        }
    }

    private static List<Consumer<UndoJourneys>> changes() {
        List<Consumer<UndoJourneys>> calls = new ArrayList<>(callsOfJourney(PARKED).subList(6, 9));
        calls.add(x -> x.pass(1));
        calls.add(x -> x.pass(200));
        calls.add(x -> x.restock(0, 1));
        calls.add(x -> x.load(20));
        return calls;
    }

    private void whatIsNoChange() {
        sentence("The changing methods are load (when it succeeds), pass, settle, writeOff, goForward and restock");
        UndoJourneys x = busy();
        Texts.load(x, "x");
        x.load(0);
        Texts.append(x, "trips;");
        x.restsIn(0);
        x.help(0, 0);
        x.checksum();
        is("load and pass only", 1, x.undo());
        is("load only", 0, x.undo());
        is("no more", -1, x.undo());
        is("undo is no change", -1, x.undo());
    }

    private void eightChanges() {
        sentence("The latest 8 changes can be undone, the latest one first");
        for (int changes = 0; changes <= 10; changes++) {
            UndoJourneys x = new UndoJourneys();
            for (int i = 0; i < changes; i++) {
                x.pass(1);
            }
            int undoable = Math.min(8, changes);
            for (int i = 1; i <= undoable; i++) {
                is("undo " + i + " of " + changes, undoable - i, x.undo());
                is("the time behind undo " + i + " of " + changes, changes - i, x.state(0));
            }
            is("one more of " + changes, -1, x.undo());
            is("the time behind one more", changes - undoable, x.state(0));
        }
    }

    private void finalChanges() {
        sentence("a change is final as soon as 8 later ones, none of them undone, have been made");
        UndoJourneys x = Texts.loaded("trips;stock 0 1;");
        for (int i = 1; i <= 7; i++) {
            x.restock(0, 1);
        }
        // Behind the load there have never been 8 changes that were not undone.
        for (int i = 1; i <= 5; i++) {
            is("undo", 7, x.undo());
            x.restock(0, 10);
        }
        is("level", 16, x.stock(0, 0));
        for (int left = 7; left >= 0; left--) {
            is("undo", left, x.undo());
        }
        is("the load is undone", 0, x.state(1));
        UndoJourneys y = Texts.loaded("trips;stock 0 1;");
        for (int i = 1; i <= 8; i++) {
            y.restock(0, 1);
        }
        is("the eighth is undone", 7, y.undo());
        y.undo();
        y.undo();
        y.restock(0, 1);
        for (int left = 5; left >= 0; left--) {
            is("undo", left, y.undo());
        }
        is("the load stays final", -1, y.undo());
        is("the load stays", 1, y.state(1));
        is("its level", 0, y.stock(0, 0));
    }

    private void undoNothing() {
        sentence("Returns the number of changes that can still be undone; -1 if there was none to undo, and nothing changes then.");
        UndoJourneys x = busy();
        UndoJourneys other = busy();
        for (UndoJourneys y : new UndoJourneys[] {x, other}) {
            y.undo();
            y.undo();
        }
        is("none", -1, x.undo());
        is("none again", -1, x.undo());
        sameInAll("undo of nothing", other, x);
        UndoJourneys nine = after("trips;stock 9 9;journey 3 0*1:99;", 9);
        UndoJourneys same = after("trips;stock 9 9;journey 3 0*1:99;", 9);
        for (int i = 0; i < 8; i++) {
            nine.undo();
            same.undo();
        }
        is("the rest is final", -1, nine.undo());
        sameInAll("undo of final ones", same, nine);
    }

    private void undoOfEachChange() {
        sentence("Undoes the latest change that is not final and has not been undone.");
        for (Consumer<UndoJourneys> call : changes()) {
            UndoJourneys x = busy();
            call.accept(x);
            x.undo();
            UndoJourneys other = busy();
            isWhole("undo", other, x);
            x.load(0);
            other.load(0);
            for (UndoJourneys y : new UndoJourneys[] {x, other}) {
                y.pass(3);
            }
            sameInAll("ticks behind undo", other, x);
        }
        UndoJourneys x = after("trips;patience 1;stock 1 1;stock 0 1;journey 0 0*1:1 undo 1 and 1*1:1 again 1;", 6);
        is("goForward", 0, x.goForward(0));
        is("repeats are new", 1, x.step(0, 1, 6));
        x.pass(1);
        is("a repeat is gone", 0, x.step(0, 1, 6));
        x.undo();
        is("the repeat is back", 1, x.step(0, 1, 6));
        is("no time of rest", -1, x.journey(0, 5));
        x.undo();
        is("no repeat again", 0, x.step(0, 1, 6));
        is("the time of rest is back", 2, x.journey(0, 5));
    }

    /** Compares what each step and journey tells too. */
    private void isWhole(String what, UndoJourneys due, UndoJourneys got) {
        sameData(what, due, got);
        for (int journey = 0; journey < due.state(2); journey++) {
            for (int n = 0; n < 7; n++) {
                is(what + ": journey " + journey + " " + n, due.journey(journey, n), got.journey(journey, n));
                for (int step = 0; step < due.journey(journey, 3); step++) {
                    is(what + ": step " + journey + " " + step + " " + n, due.step(journey, step, n), got.step(journey, step, n));
                }
            }
        }
    }

    private void undoKeepsBufferAndOffset() {
        sentence("The input buffer and the error offset are not affected.");
        UndoJourneys x = busy();
        is("undo", 1, x.undo());
        is("the offset of the error", 6, x.errorOffset());
        is("the buffer", 0, x.load(20));
        is("it was read", 9, x.state(4));
        is("no error", -1, x.errorOffset());
        is("undo of a load", 1, x.undo());
        is("still no error", -1, x.errorOffset());
        is("the buffer is still empty", 20, Texts.append(x, "trips;"));
    }

    private void checksumOrder() {
        sentence("It starts at 0; each number n in the following order replaces it by 31 * checksum + n, "
            + "wrapping around on overflow of a long");
        BigInteger none = BigInteger.ZERO;
        for (int n : new int[] {0, 0, 0, 0, 5, 3, 0, 0, 0, 0}) {
            none = none.multiply(BigInteger.valueOf(31)).add(BigInteger.valueOf(n));
        }
        is("a new object", none.longValueExact(), new UndoJourneys().checksum());
        isSum("without journeys", Texts.loaded("trips;stock 1 2;stock 9999 9;"));
        isSum("all states", busy());
    }

    private void isSum(String what, UndoJourneys x) {
        is(what, sumOf(x).longValue(), x.checksum());
    }

    /** The sum without any wrap-around. */
    private static BigInteger sumOf(UndoJourneys x) {
        List<Integer> numbers = new ArrayList<>();
        for (int what = 0; what <= 9; what++) {
            numbers.add(x.state(what));
        }
        for (int stock = 0; stock < x.state(1); stock++) {
            for (int what = 0; what <= 5; what++) {
                numbers.add(x.stock(stock, what));
            }
        }
        for (int journey = 0; journey < x.state(2); journey++) {
            for (int what = 0; what <= 6; what++) {
                numbers.add(x.journey(journey, what));
            }
            for (int step = 0; step < x.journey(journey, 3); step++) {
                for (int what = 4; what <= 6; what++) {
                    numbers.add(x.step(journey, step, what));
                }
            }
        }
        BigInteger sum = BigInteger.ZERO;
        for (int n : numbers) {
            sum = sum.multiply(BigInteger.valueOf(31)).add(BigInteger.valueOf(n));
        }
        return sum;
    }

    private void checksumWraps() {
        sentence("wrapping around on overflow of a long");
        String three = "0*1:1undo9again9 and0*1:9 and0*1:1";
        String full = "trips;" + "stock 99 9;".repeat(6) + "journey 0 0*1:1;".repeat(6)
            + ("journey 1 " + three + ("then" + three).repeat(3) + ";").repeat(2);
        int negative = 0;
        for (int ticks = 0; ticks <= 20; ticks++) {
            UndoJourneys x = Texts.loaded(full);
            if (ticks > 0) {
                x.pass(ticks);
            }
            BigInteger sum = sumOf(x);
            is("it goes past a long", 1, sum.bitLength() > 63 ? 1 : 0);
            is("behind " + ticks, sum.longValue(), x.checksum());
            negative += x.checksum() < 0 ? 1 : 0;
        }
        is("some are negative, some are not", 1, negative > 0 && negative < 21 ? 1 : 0);
    }
}
