/** The sentences about ticks, people and forecasts that name a boundary case, each with its own test. */
public final class TickBoundariesTest extends Boundaries {
    /** Parked at the time 5 by the step 0 of its first stage, with one failure left. */
    private static final String PARKS = "trips;patience 2;stock 9 1;stock 0 1;"
        + "journey 0 0*2:2 undo 3 again 4 then 1*1:1 again 0;";

    private TickBoundariesTest() {
        super("TickBoundariesTest");
    }

    public static void main(String[] args) {
        TickBoundariesTest test = new TickBoundariesTest();
        test.timeAtFirst();
        test.statesOfSteps();
        test.statesOfJourneys();
        test.ended();
        test.start();
        test.startedStepsAreReady();
        test.ascendingOrder();
        test.duration();
        test.guard();
        test.holding();
        test.ownHolding();
        test.waitOfAll();
        test.waitAtItsLastTick();
        test.waitBeforeLevel();
        test.level();
        test.repeats();
        test.readyOnesAreNotBegun();
        test.stages();
        test.stageWrittenOff();
        test.failedWhileOthersRun();
        test.nothingToUndo();
        test.undoingBeginsLater();
        test.failuresAndPatience();
        test.usualPatience();
        test.patienceOfEachStep();
        test.patienceBehindPeople();
        test.amountsComeBackLate();
        test.timeGrows();
        test.settle();
        test.settleOfOthers();
        test.writeOff();
        test.goForward();
        test.goForwardStages();
        test.goForwardRepeats();
        test.goForwardWaits();
        test.owedPlaces();
        test.restsIn();
        test.stateAfter();
        test.forecastsBeyond9999();
        test.help();
        test.helpIn1100Ticks();
        test.helpOfMore();
        test.restsIn3000();
        test.end();
    }

    private void timeAtFirst() {
        sentence("The time is counted in ticks, 0 at first.");
        UndoJourneys x = new UndoJourneys();
        is("a new object", 0, x.state(0));
        x.pass(200);
        Texts.load(x, "trips;");
        is("a new text", 0, x.state(0));
        is("a journey that starts at 0 begins in the first tick", 1, after("trips;stock 1 1;journey 0 0*1:1;", 1).journey(0, 0));
    }

    private void statesOfSteps() {
        sentence("The state of a step is 0 not begun, 1 ready, 2 running, 3 done, 4 failed, 5 undone, 6 written off.");
        String text = "trips;patience 1;stock 9 1;stock 0 1;journey 1 0*1:1 undo 1 then 0*1:1 then 1*1:1 again 1;";
        int[][] due = {{0, 0, 0}, {0, 0, 0}, {2, 0, 0}, {3, 1, 0}, {3, 2, 0}, {3, 3, 1}, {3, 3, 1}, {3, 3, 4}, {3, 5, 4}, {3, 5, 4}};
        for (int ticks = 0; ticks < due.length; ticks++) {
            steps("behind " + ticks, after(text, ticks), 0, due[ticks]);
        }
        UndoJourneys x = after(text, 10);
        x.writeOff(0);
        steps("written off", x, 0, 6, 5, 4);
    }

    private void statesOfJourneys() {
        sentence("The state of a journey is 0 to come, 1 going forward, 2 undoing, 3 done, 4 undone, 5 parked.");
        UndoJourneys x = busy();
        for (int state = 0; state <= 5; state++) {
            journeyIs("each of them", x, state, state);
        }
    }

    private void ended() {
        sentence("It has ended if its state is 3 or 4.");
        UndoJourneys x = busy();
        int held = 2 + 2 + 5;
        is("what is taken in those that have not ended", held, x.stock(0, 3));
        UndoJourneys y = Texts.loaded("trips;stock 1 1;stock 0 1;journey 0 0*1:1;journey 0 1*1:1;journey 0 0*1:1 undo 3 and 1*1:1;");
        int ended = 0;
        for (int ticks = 1; ticks <= 9; ticks++) {
            ended += y.pass(1);
            is("behind " + ticks, endedOf(y, 0) + endedOf(y, 1) + endedOf(y, 2), ended);
        }
        is("one is done, two are undone", 3, ended);
    }

    private static int endedOf(UndoJourneys x, int journey) {
        int state = x.journey(journey, 0);
        return state == 3 || state == 4 ? 1 : 0;
    }

    private void start() {
        sentence("The journeys to come with this start go forward; their first stage is the present one, and its steps are ready.");
        for (int start : new int[] {0, 1, 2, 998, 999}) {
            String text = "trips;stock 1 1;journey " + start + " 0*1:1;";
            UndoJourneys before = after(text, start);
            journeyIs("at the start, before its tick", before, 0, 0);
            steps("at the start, before its tick", before, 0, 0);
            is("present stage before", -1, before.journey(0, 4));
            UndoJourneys behind = after(text, start + 1);
            journeyIs("behind the tick of its start", behind, 0, 1);
            is("present stage", 0, behind.journey(0, 4));
            steps("begun in the tick of its start", behind, 0, 2);
        }
    }

    private void startedStepsAreReady() {
        sentence("its steps are ready");
        UndoJourneys x = after("trips;stock 0 1;journey 2 0*1:1 again 1 and 0*1:1 again 1 then 0*1:1 again 1;", 3);
        steps("those of the first stage alone", x, 0, 1, 1, 0);
        UndoJourneys y = after("trips;stock 9 9;journey 5 0*1:1;journey 0 0*1:9;journey 5 0*1:1;", 5);
        steps("not those of the journey before it", y, 0, 0);
        steps("not those of the journey behind it", y, 2, 0);
    }

    private void ascendingOrder() {
        sentence("For each journey in ascending order that goes forward, and for the steps of its present stage, in ascending order:");
        UndoJourneys x = after("trips;stock 2 9;journey 0 0*1:9 and 0*1:9 and 0*1:9;journey 0 0*1:9;", 1);
        steps("the first ones take the last amounts", x, 0, 2, 2, 4);
        steps("nothing is left", x, 1, 4);
        UndoJourneys y = after("trips;stock 1 9;journey 0 0*1:1;journey 0 0*1:1 again 9;journey 0 0*1:1 again 9;", 1);
        steps("the first journey takes the last amount", y, 0, 2);
        y.restock(0, 1);
        y.pass(1);
        steps("the first journey of two takes the last amount", y, 1, 2);
        steps("nothing is left", y, 2, 1);
    }

    private void duration() {
        sentence("If the step is running, and as many ticks have passed since it began to run as its duration, it is done.");
        for (int duration : new int[] {1, 2, 98, 99}) {
            for (int start : new int[] {0, 5}) {
                String text = "trips;stock 1 1;journey " + start + " 0*1:" + duration + ";";
                UndoJourneys x = after(text, start + duration);
                steps("a tick less", x, 0, 2);
                journeyIs("a tick less", x, 0, 1);
                is("the last tick ends it", 1, x.pass(1));
                steps("as many ticks", x, 0, 3);
                is("done at", start + duration, x.journey(0, 5));
            }
        }
        String others = "wait 99;stock 9 1;journey 0 1*1:99 then 1*1:99;journey 0 1*1:1;";
        for (int duration : new int[] {1, 2, 50, 93}) {
            String text = "trips;stock 1 1;journey 5 0*1:" + duration + ";" + others;
            steps("beside one that waits, a tick less", after(text, 5 + duration), 0, 2);
            steps("beside one that waits, as many ticks", after(text, 6 + duration), 0, 3);
        }
    }

    private void guard() {
        sentence("If the journey does not hold its stock, and as many other journeys hold it as the guard, it waits");
        for (int guard = 1; guard <= 9; guard++) {
            UndoJourneys x = after("trips;stock 99 " + guard + ";" + "journey 0 0*1:99;".repeat(8), 1);
            for (int journey = 0; journey < 8; journey++) {
                steps("guard " + guard, x, journey, journey < guard ? 2 : 1);
            }
            is("as many as the guard hold it", Math.min(8, guard), x.stock(0, 2));
        }
    }

    private void holding() {
        sentence("A journey holds a stock if it has not ended, and has a step of this stock that is running or done.");
        holders("to come, not begun", 0, "trips;stock 9 9;journey 5 0*1:1;", 5);
        holders("ready", 0, "trips;stock 0 9;journey 0 0*1:1 again 9;", 1);
        holders("running", 1, "trips;stock 9 9;journey 0 0*1:2;", 1);
        holders("done in a journey that goes forward", 1, "trips;stock 9 9;stock 9 9;journey 0 0*1:1 then 1*1:9;", 4);
        holders("two steps of a journey", 1, "trips;stock 9 9;journey 0 0*1:9 and 0*1:9;", 3);
        holders("failed", 0, "trips;stock 0 9;journey 0 0*1:1;", 1);
        holders("done in a journey that is done", 0, "trips;stock 9 9;journey 0 0*1:1;", 2);
        String undoes = "trips;stock 9 9;stock 0 9;journey 0 0*1:1 undo 1 then 1*1:1;";
        holders("done in a journey that is undoing", 1, undoes, 4);
        holders("undone in a journey that is undoing", 0, undoes, 5);
        holders("a journey that is undone", 0, undoes, 6);
        UndoJourneys x = after(PARKS, 6);
        is("done in a journey that is parked", 1, x.stock(0, 2));
        x.writeOff(0);
        is("written off", 0, x.stock(0, 2));
        is("eight journeys", 8, after("trips;stock 8 9;" + "journey 0 0*1:9;".repeat(8), 1).stock(0, 2));
    }

    private void holders(String what, int due, String text, int ticks) {
        is(what, due, after(text, ticks).stock(0, 2));
    }

    private void ownHolding() {
        sentence("If the journey does not hold its stock");
        UndoJourneys x = after("trips;stock 9 1;journey 0 0*1:1 and 0*1:3 then 0*1:1;journey 0 0*1:1;", 1);
        steps("its own steps do not hinder it", x, 0, 2, 2, 0);
        steps("another journey waits", x, 1, 1);
        x.pass(4);
        steps("its done steps do not hinder it", x, 0, 3, 3, 2);
    }

    private void waitOfAll() {
        sentence("it fails if it has waited in as many ticks as the wait (1 to 99) before this one already");
        String holder = "stock 9 1;journey 0 0*1:99 then 0*1:99;journey 0 0*1:1;";
        for (int wait : new int[] {1, 2, 5, 98, 99}) {
            String text = "trips;" + (wait == 5 ? "" : "wait " + wait + ";") + holder;
            UndoJourneys x = after(text, wait);
            steps("it waits in as many ticks", x, 1, 1);
            journeyIs("it waits in as many ticks", x, 1, 1);
            x.pass(1);
            steps("it fails in the next one", x, 1, 4);
            journeyIs("it fails in the next one", x, 1, 2);
            x.pass(1);
            is("undone at", wait + 1, x.journey(1, 5));
        }
    }

    private void waitAtItsLastTick() {
        sentence("it fails if it has waited in as many ticks as the wait (1 to 99) before this one already");
        for (int wait : new int[] {1, 2, 98}) {
            String begin = "trips;wait " + wait + ";stock 9 1;journey 0 0*1:";
            UndoJourneys x = after(begin + wait + ";journey 0 0*1:1;", wait + 1);
            steps("free behind as many waits", x, 1, 2);
            UndoJourneys y = after(begin + (wait + 1) + ";journey 0 0*1:1;", wait + 1);
            steps("free a tick later", y, 1, 4);
        }
        // A journey with a greater index that ends in a tick makes room in the next one.
        String two = "stock 9 1;journey 1 0*1:1;journey 0 0*1:3;";
        UndoJourneys x = after("trips;wait 3;" + two, 4);
        steps("not yet free in the tick in which the other one ends", x, 0, 1);
        journeyIs("the other one", x, 1, 3);
        x.pass(1);
        steps("free in the tick behind it", x, 0, 2);
        steps("waited in as many ticks", after("trips;wait 2;" + two, 4), 0, 4);
    }

    private void waitBeforeLevel() {
        sentence("Otherwise, if the level of the stock is less than its amount");
        UndoJourneys x = after("trips;wait 2;stock 1 1;journey 0 0*1:9;journey 0 0*1:1 again 1;", 2);
        is("a step that waits keeps its repeats", 1, x.step(1, 0, 6));
        steps("it waits", x, 1, 1);
        x.pass(1);
        steps("it fails by its waits", x, 1, 4);
        is("with a repeat left", 1, x.step(1, 0, 6));
    }

    private void level() {
        sentence("if the level of the stock is less than its amount: if it has repeats left, it has one less; otherwise it fails. "
            + "Otherwise the amount is taken from the level, and it is running.");
        for (int amount : new int[] {1, 2, 998, 999}) {
            String journey = " 1;journey 0 0*" + amount + ":1;";
            UndoJourneys enough = after("trips;stock " + amount + journey, 1);
            steps("a level as great as the amount", enough, 0, 2);
            is("nothing is left", 0, enough.stock(0, 0));
            UndoJourneys more = after("trips;stock " + (amount + 1) + journey, 1);
            is("one is left", 1, more.stock(0, 0));
            UndoJourneys less = after("trips;stock " + (amount - 1) + journey, 1);
            steps("a level less by one", less, 0, 4);
            is("nothing is taken", amount - 1, less.stock(0, 0));
        }
    }

    private void repeats() {
        sentence("if it has repeats left, it has one less; otherwise it fails");
        for (int repeats : new int[] {0, 1, 2, 9}) {
            String text = "trips;stock 0 1;journey 0 0*1:1 again " + repeats + ";";
            UndoJourneys x = after(text, repeats);
            is("no repeat left", 0, x.step(0, 0, 6));
            steps("it has not failed", x, 0, repeats == 0 ? 0 : 1);
            UndoJourneys y = after(text, repeats);
            x.pass(1);
            steps("it fails", x, 0, 4);
            is("no repeat left", 0, x.step(0, 0, 6));
            y.restock(0, 1);
            y.pass(1);
            steps("the last tick that helps", y, 0, 2);
        }
        for (int ticks = 1; ticks <= 6; ticks++) {
            UndoJourneys x = after("trips;stock 9 1;stock 0 1;journey 0 0*1:99 and 1*1:1 again 5;", ticks);
            is("beside one that runs, behind " + ticks, Math.max(0, 5 - ticks), x.step(0, 1, 6));
            steps("beside one that runs, behind " + ticks, x, 0, 2, ticks < 6 ? 1 : 4);
        }
        UndoJourneys x = after("trips;stock 9 1;stock 0 1;journey 0 1*1:1 again 5 and 0*1:99;", 6);
        steps("before one that runs", x, 0, 4, 2);
    }

    private void readyOnesAreNotBegun() {
        sentence("Behind the steps of the journey: if one of them has failed, those that are ready are not begun.");
        UndoJourneys x = after("trips;stock 9 1;stock 0 1;journey 0 0*1:9;"
            + "journey 0 1*1:1 again 3 and 0*1:1 and 1*1:1 then 0*1:1;", 1);
        steps("the ready ones on both sides of it", x, 1, 0, 0, 4, 0);
        is("the repeat of this tick is gone", 2, x.step(1, 0, 6));
        UndoJourneys y = after("trips;stock 9 1;stock 0 1;journey 0 0*1:3 and 1*1:1 and 1*2:1 again 9;", 1);
        steps("a running one runs on", y, 0, 2, 4, 0);
        y.restock(1, 9);
        y.pass(2);
        steps("none begins any more", y, 0, 2, 4, 0);
        UndoJourneys z = after("trips;stock 9 1;stock 0 1;journey 0 1*1:1 and 0*1:3;", 1);
        steps("one behind it has begun in this tick", z, 0, 4, 2);
    }

    private void stages() {
        sentence("If all of the present stage are done or written off, the next stage is the present one, "
            + "and those of its steps that are not begun are ready; behind the last stage the journey is done, at this time.");
        for (int stages = 1; stages <= 5; stages++) {
            String text = "trips;stock 9 1;journey 0 0*1:1" + " then 0*1:1".repeat(stages - 1) + ";";
            for (int ticks = 1; ticks < 2 * stages; ticks++) {
                UndoJourneys x = after(text, ticks);
                is("present stage of " + stages + " behind " + ticks, ticks / 2, x.journey(0, 4));
                steps("its step", x, 0, stepStates(stages, ticks));
            }
            UndoJourneys x = after(text, 2 * stages);
            journeyIs("behind the last of " + stages, x, 0, 3);
            is("present stage", -1, x.journey(0, 4));
            is("done at", 2 * stages - 1, x.journey(0, 5));
        }
        UndoJourneys y = after("trips;stock 9 1;journey 0 0*1:1 and 0*1:2 and 0*1:3 then 0*1:1 and 0*1:1;", 3);
        is("two of three done", 0, y.journey(0, 4));
        steps("two of three done", y, 0, 3, 3, 2, 0, 0);
        y.pass(1);
        is("three of three done", 1, y.journey(0, 4));
        steps("all of the next stage are ready", y, 0, 3, 3, 3, 1, 1);
    }

    /** Stage k is ready behind 2k ticks, runs behind 2k + 1, and is done behind 2k + 2. */
    private static int[] stepStates(int stages, int ticks) {
        int[] states = new int[stages];
        for (int k = 0; k < stages; k++) {
            states[k] = ticks >= 2 * k + 2 ? 3 : ticks == 2 * k + 1 ? 2 : ticks == 2 * k && k > 0 ? 1 : 0;
        }
        return states;
    }

    private void stageWrittenOff() {
        sentence("If all of the present stage are done or written off");
        // Stage 1 is written off, stage 2 has failed, step 1 of stage 0 is undone.
        UndoJourneys x = after("trips;patience 1;stock 20 1;stock 0 1;"
            + "journey 0 0*1:1 undo 5 and 0*2:1 then 0*4:1 undo 1 then 1*1:1 again 1;", 8);
        is("writeOff", 2, x.writeOff(0));
        x.pass(2);
        steps("parked by its first step", x, 0, 3, 5, 6, 4);
        is("goForward", 0, x.goForward(0));
        x.restock(1, 1);
        x.pass(2);
        is("a stage that is written off is the present one", 1, x.journey(0, 4));
        x.pass(1);
        is("behind it the next one is", 2, x.journey(0, 4));
        steps("its step is ready", x, 0, 3, 3, 6, 1);
        is("the journey is done", 1, x.pass(2));
        steps("written off for good", x, 0, 3, 3, 6, 3);
    }

    private void failedWhileOthersRun() {
        sentence("If one has failed, and none is running, the journey is undoing from the next tick on.");
        for (int duration : new int[] {1, 2, 99}) {
            UndoJourneys x = after("trips;stock 1 1;stock 0 1;journey 0 0*1:" + duration + " and 1*1:1;", duration);
            journeyIs("one is running", x, 0, 1);
            is("its present stage", 0, x.journey(0, 4));
            x.pass(1);
            journeyIs("none is running", x, 0, 2);
            steps("none is running", x, 0, 3, 4);
            x.pass(2);
            is("undone at", duration + 2, x.journey(0, 5));
        }
        UndoJourneys both = after("trips;stock 1 1;stock 0 1;journey 0 0*1:1 and 1*1:1 again 1;", 2);
        journeyIs("the last one ends in the tick of the failure", both, 0, 2);
        steps("the last one ends in the tick of the failure", both, 0, 3, 4);
    }

    private void nothingToUndo() {
        sentence("If there is none, the journey is undone, at this time.");
        UndoJourneys x = after("trips;stock 0 1;journey 3 0*1:1;", 4);
        journeyIs("nothing was done", x, 0, 2);
        is("no time yet", -1, x.journey(0, 5));
        is("it ends", 1, x.pass(1));
        journeyIs("nothing was done", x, 0, 4);
        is("undone at", 4, x.journey(0, 5));
    }

    private void undoingBeginsLater() {
        sentence("For each journey in ascending order that was undoing at the beginning of this tick: "
            + "its last step that is done (the one with the greatest number) is to be undone.");
        String text = "trips;stock 9 1;stock 0 1;journey 0 0*1:1 and 0*2:2 and 0*4:1 then 1*1:1;";
        UndoJourneys x = after(text, 4);
        journeyIs("the tick of the failure", x, 0, 2);
        steps("undoes nothing", x, 0, 3, 3, 3, 4);
        int[] levels = {2, 6, 8, 9, 9};
        for (int ticks = 0; ticks < levels.length; ticks++) {
            is("one step a tick, " + ticks, levels[ticks], after(text, 4 + ticks).stock(0, 0));
        }
        journeyIs("no step is left, its tick is to come", after(text, 7), 0, 2);
        journeyIs("no step was left", after(text, 8), 0, 4);
    }

    private void failuresAndPatience() {
        sentence("if the step has failures left, it has one less, and the undo has failed; when it has failed as often as "
            + "the patience (1 to 9) for this step since the journey began to undo or was let go on, the journey is parked, "
            + "at this time. If it has no failures left, the amount is put back, and the step is undone.");
        for (int patience : new int[] {1, 2, 3, 8, 9}) {
            for (int failures = 0; failures <= 9; failures++) {
                String text = "trips;patience " + patience + ";stock 1 1;stock 0 1;journey 0 0*1:1 undo " + failures
                    + " then 1*1:1;";
                if (failures >= patience) {
                    parks(text, patience, failures);
                } else {
                    isUndone(text, failures);
                }
            }
        }
    }

    private void parks(String text, int patience, int failures) {
        UndoJourneys x = after(text, 2 + patience);
        journeyIs("a failure less than the patience, " + text, x, 0, 2);
        is("undos that failed", patience - 1, x.state(9));
        x.pass(1);
        journeyIs("as many failures, " + text, x, 0, 5);
        is("undos that failed", patience, x.state(9));
        is("failures left", failures - patience, x.step(0, 0, 5));
        is("parked at", 2 + patience, x.journey(0, 5));
        steps("its step stays done", x, 0, 3, 4);
        x.pass(200);
        journeyIs("parked for good", x, 0, 5);
        is("no failure more", patience, x.state(9));
    }

    private void isUndone(String text, int failures) {
        UndoJourneys x = after(text, 3 + failures);
        is("undos that failed", failures, x.state(9));
        is("no failures left", 0, x.step(0, 0, 5));
        steps("not yet undone, " + text, x, 0, 3, 4);
        is("the level before", 0, x.stock(0, 0));
        x.pass(1);
        steps("undone, " + text, x, 0, 5, 4);
        is("the level behind", 1, x.stock(0, 0));
        x.pass(1);
        journeyIs("undone, " + text, x, 0, 4);
        is("undone at", 4 + failures, x.journey(0, 5));
    }

    private void usualPatience() {
        sentence("wait is 5 and patience is 3 without their statements");
        parks("trips;stock 1 1;stock 0 1;journey 0 0*1:1 undo 3 then 1*1:1;", 3, 3);
        isUndone("trips;stock 1 1;stock 0 1;journey 0 0*1:1 undo 2 then 1*1:1;", 2);
    }

    private void patienceOfEachStep() {
        sentence("when it has failed as often as the patience (1 to 9) for this step");
        String begin = "trips;patience 3;stock 9 1;stock 0 1;journey 0 0*1:1 undo ";
        UndoJourneys x = after(begin + "2 and 0*1:1 undo 2 and 0*1:1 undo 2 then 1*1:1;", 14);
        journeyIs("six failures, two of each step", x, 0, 4);
        is("six failures, two of each step", 6, x.state(9));
        UndoJourneys y = after(begin + "3 and 0*1:1 undo 2 and 0*1:1 undo 2 then 1*1:1;", 13);
        journeyIs("three failures of the last of them", y, 0, 5);
        is("three failures of the last of them", 7, y.state(9));
    }

    private void patienceBehindPeople() {
        sentence("for this step since the journey began to undo or was let go on");
        UndoJourneys x = after("trips;patience 2;stock 9 1;stock 0 1;journey 0 0*1:1 undo 4 and 0*1:1 undo 2 then 1*1:1;", 6);
        journeyIs("parked", x, 0, 5);
        is("settle", 1, x.settle(0));
        x.pass(1);
        journeyIs("a failure behind settle", x, 0, 2);
        x.pass(1);
        journeyIs("two failures behind settle", x, 0, 5);
        is("goForward", 0, x.goForward(0));
        x.pass(3);
        journeyIs("undoing anew", x, 0, 2);
        x.pass(1);
        steps("the undo of step 1 has no failures left", x, 0, 3, 5, 4);
        x.pass(1);
        journeyIs("a failure behind goForward", x, 0, 2);
        x.pass(1);
        journeyIs("two failures behind goForward", x, 0, 5);
        is("six failures", 6, x.state(9));
        is("writeOff", 0, x.writeOff(0));
        is("no step is left", 1, x.pass(1));
        UndoJourneys again = after(PARKS, 6);
        again.goForward(0);
        again.pass(2);
        journeyIs("the same step, a failure behind goForward", again, 0, 2);
        again.pass(1);
        steps("the same step has no failures left", again, 0, 5, 4);
    }

    private void amountsComeBackLate() {
        sentence("When a tick passes, the following is done in this order, with the time as it is before:");
        String text = "trips;stock 1 9;stock 0 1;journey 0 0*1:1 then 1*1:1;journey 3 0*1:1 again 1;";
        UndoJourneys x = after(text, 4);
        steps("the amount is put back in the tick 3", x, 0, 5, 4);
        steps("behind the journeys that go forward", x, 1, 1);
        is("their repeats are less", 0, x.step(1, 0, 6));
        x.pass(1);
        steps("it is there in the tick 4", x, 1, 2);
        UndoJourneys own = after("trips;stock 0 1;journey 0 0*1:1;journey 0 0*1:1;", 2);
        is("two end in a tick", 2, own.state(7));
    }

    private void timeGrows() {
        sentence("The time becomes greater by 1.");
        UndoJourneys x = new UndoJourneys();
        for (int time = 1; time <= 5; time++) {
            x.pass(1);
            is("the time", time, x.state(0));
        }
        is("the time behind 200 ticks", 200, after("trips;", 200).state(0));
    }

    private void settle() {
        sentence("If a parked journey is settled, the amount of its last step that is done is put back, the step is undone, "
            + "and the journey is undoing again.");
        UndoJourneys x = after("trips;patience 1;stock 9 1;stock 0 1;"
            + "journey 0 0*1:1 and 0*2:1 undo 1 and 0*4:1 undo 1 then 1*1:1;", 5);
        is("the last one", 2, x.settle(0));
        steps("the last one", x, 0, 3, 3, 5, 4);
        is("its amount alone", 6, x.stock(0, 0));
        journeyIs("undoing again", x, 0, 2);
        is("no time of rest", -1, x.journey(0, 5));
        x.pass(1);
        is("the one before", 1, x.settle(0));
        is("the level", 8, x.stock(0, 0));
        x.pass(1);
        steps("the first one is undone", x, 0, 5, 5, 5, 4);
        is("the journey is undone", 1, x.pass(1));
        sentence("failures stay");
        UndoJourneys y = after(PARKS, 6);
        y.settle(0);
        is("settled", 1, y.step(0, 0, 5));
    }

    private void settleOfOthers() {
        sentence("Returns the number of the step that is undone.");
        String other = "trips;patience 1;stock 9 2;stock 0 9;journey 0 0*1:1 and 0*1:1;"
            + "journey 0 0*1:1 then 0*2:1 undo 1 then 1*1:1;journey 0 1*1:1 again 9 and 1*1:1 again 9;";
        UndoJourneys x = after(other, 6);
        journeyIs("the second journey is parked", x, 1, 5);
        is("settle", 1, x.settle(1));
        steps("of its own steps", x, 1, 3, 5, 4);
        isNoOther(x);
        sentence("Returns the number of the step that is written off.");
        UndoJourneys y = after(other, 6);
        is("writeOff", 1, y.writeOff(1));
        steps("of its own steps", y, 1, 3, 6, 4);
        isNoOther(y);
        sentence("Returns its present stage then");
        UndoJourneys z = after(other, 6);
        is("goForward", 2, z.goForward(1));
        steps("its own steps", z, 1, 3, 3, 1);
        isNoOther(z);
    }

    private void isNoOther(UndoJourneys x) {
        steps("no step of the journey before it", x, 0, 3, 3);
        steps("no step of the journey behind it", x, 2, 1, 1);
        is("no repeats of the journey behind it", 3, x.step(2, 0, 6));
        is("no repeats of the journey behind it", 3, x.step(2, 1, 6));
    }

    private void writeOff() {
        sentence("If it is written off, this step is written off (its amount is not put back), and the journey is undoing again.");
        UndoJourneys x = after(PARKS, 6);
        is("level before", 7, x.stock(0, 0));
        is("the last one", 0, x.writeOff(0));
        is("level behind", 7, x.stock(0, 0));
        is("written off", 2, x.stock(0, 5));
        steps("written off", x, 0, 6, 4);
        journeyIs("undoing again", x, 0, 2);
        is("owes nothing more", 0, x.journey(0, 6));
        is("undone in the next tick", 1, x.pass(1));
        is("level of an undone one", 7, x.stock(0, 0));
        is("written off in an undone one", 2, x.stock(0, 5));
        steps("written off for good", x, 0, 6, 4);
    }

    private void goForward() {
        sentence("If it is let go forward again, the first stage with a step that is neither done nor written off is the present "
            + "one; the steps of this and of all later stages that are neither done nor written off are not begun, "
            + "but those of the present stage are ready");
        UndoJourneys x = after("trips;patience 1;stock 9 1;stock 0 1;"
            + "journey 0 0*1:1 undo 1 and 0*2:1 then 1*1:1 and 0*4:1 then 0*1:1;", 7);
        steps("parked", x, 0, 3, 5, 4, 5, 0);
        is("the stage of a step that is undone", 0, x.goForward(0));
        steps("let go forward", x, 0, 3, 1, 0, 0, 0);
        is("its present stage", 0, x.journey(0, 4));
        journeyIs("let go forward", x, 0, 1);
        is("no time of rest", -1, x.journey(0, 5));
        UndoJourneys y = after(PARKS, 6);
        is("the stage of the step that failed", 1, y.goForward(0));
        steps("let go forward", y, 0, 3, 1);
        y.restock(1, 1);
        is("done at last", 1, y.pass(2));
        is("done at", 7, y.journey(0, 5));
    }

    private void goForwardStages() {
        sentence("Returns its present stage then; -1 if this is refused (nothing is done then).");
        // "(If there is no such stage, this is refused.)": a parked journey always has its failed step, so none is.
        for (int stage = 0; stage <= 4; stage++) {
            String before = "0*1:1 undo 9 then ".repeat(stage);
            String text = "trips;patience 1;stock 9 1;stock 0 1;journey 0 " + before + "0*1:1 undo 9 and 1*1:1;";
            UndoJourneys x = after(text, 3 + 2 * stage);
            journeyIs("parked", x, 0, 5);
            is("stage", stage, x.goForward(0));
            is("present stage", stage, x.journey(0, 4));
        }
        UndoJourneys x = after("trips;patience 1;stock 9 1;stock 0 1;journey 0 0*1:1 undo 9 then 0*1:1 undo 9 then 1*1:1;", 6);
        x.writeOff(0);
        x.pass(1);
        is("behind a stage written off", 2, x.goForward(0));
        steps("behind a stage written off", x, 0, 3, 6, 1);
    }

    private void goForwardRepeats() {
        sentence("all of these have their repeats as in the text again (failures stay), and the journey goes forward");
        UndoJourneys x = after("trips;patience 1;stock 0 1;stock 0 1;journey 2 0*1:1 undo 3 again 9 and 1*1:1 again 4 "
            + "and 1*1:1 again 9 then 0*1:1 again 7;", 4);
        x.restock(0, 9);
        x.pass(5);
        journeyIs("parked", x, 0, 5);
        steps("parked", x, 0, 3, 4, 0, 0);
        int[] left = {7, 0, 4, 7};
        repeatsLeft(x, left);
        is("goForward", 0, x.goForward(0));
        repeatsLeft(x, 7, 4, 9, 7);
        is("failures stay", 2, x.step(0, 0, 5));
        is("undo", 7, x.undo());
        repeatsLeft(x, left);
    }

    private void repeatsLeft(UndoJourneys x, int... due) {
        for (int step = 0; step < due.length; step++) {
            is("repeats left of step " + step, due[step], x.step(0, step, 6));
        }
    }

    private void goForwardWaits() {
        sentence("A step that becomes ready has not waited yet.");
        // Step 1 waits at 2 and 3, fails at 4, step 0 parks it at 5.
        UndoJourneys x = after("trips;patience 1;wait 2;stock 9 2;stock 9 1;journey 0 1*1:60;journey 0 0*1:1 undo 1 then 1*1:1;", 6);
        journeyIs("parked", x, 1, 5);
        is("goForward", 1, x.goForward(1));
        x.pass(2);
        steps("it waits in as many ticks again", x, 1, 3, 1);
        x.pass(1);
        steps("then it fails", x, 1, 3, 4);
    }

    private void owedPlaces() {
        sentence("the place-th one of its steps that are done, from the one with the greatest number on.");
        String text = "trips;patience 1;stock 9 1;stock 0 1;journey 9 0*1:1;journey 0 0*1:1 and 0*1:1 and 0*1:1 undo 9 then 1*1:1;";
        UndoJourneys x = after(text, 5);
        for (int place = 0; place < 3; place++) {
            is("owed " + place, 2 - place, x.owed(1, place));
        }
        UndoJourneys all = after("trips;stock 99 1;journey 0 0*1:1 and 0*1:1 and 0*1:1" + " then 0*1:1 and 0*1:1 and 0*1:1".repeat(4)
            + ";", 10);
        for (int place = 0; place < 15; place++) {
            is("owed of fifteen", 14 - place, all.owed(0, place));
        }
        sentence("Throws `NoSuchElementException` if it has not so many steps that are done, or place is negative");
        for (int place : new int[] {-1, Integer.MIN_VALUE, 3, 4, 40, Integer.MAX_VALUE}) {
            refuses("owed(1, " + place + ")", ELEMENT, () -> after(text, 5), y -> y.owed(1, place));
        }
        refuses("owed of one with no step that is done", ELEMENT, () -> after(text, 5), y -> y.owed(0, 0));
        refuses("owed of an undone one", ELEMENT, () -> after("trips;stock 0 1;journey 0 0*1:1;", 2), y -> y.owed(0, 0));
        is("owed of a done one", 0, after("trips;stock 1 1;journey 0 0*1:1;", 2).owed(0, 0));
        UndoJourneys full = after("trips;stock 99 1;journey 0 0*1:1" + " then 0*1:1".repeat(4) + ";journey 0 0*1:1;", 10);
        is("the first of five", 0, full.owed(0, 4));
        refuses("a sixth of five", ELEMENT, () -> after("trips;stock 9 1;journey 0 0*1:1" + " then 0*1:1".repeat(4) + ";", 10),
            y -> y.owed(0, 5));
    }

    private void restsIn() {
        sentence("Returns the number of ticks after which it is done, undone or parked; 0 if it is now; "
            + "-1 if it is not within 3000 ticks.");
        String[] texts = {"trips;stock 1 1;journey 0 0*1:3;", "trips;stock 0 1;journey 3 0*1:1;", PARKS,
            "trips;stock 1 1;journey 2 0*1:3;", "trips;wait 3;stock 9 1;journey 2 0*1:1;journey 0 0*1:50;",
            "trips;stock 0 1;journey 2 0*1:1 again 3;", "trips;patience 9;stock 1 1;stock 0 1;journey 0 0*1:1 undo 8 and 1*1:1;"};
        int[] rests = {4, 5, 6, 6, 7, 7, 12};
        for (int i = 0; i < texts.length; i++) {
            for (int ticks = 0; ticks <= rests[i] + 1; ticks++) {
                UndoJourneys x = after(texts[i], ticks);
                int due = Math.max(0, rests[i] - ticks);
                is("behind " + ticks + " of " + texts[i], due, x.restsIn(0));
                is("behind " + ticks + " of " + texts[i] + " again", due, x.restsIn(0));
                is("undone and again behind " + ticks + " of " + texts[i], due, againAfterUndo(x).restsIn(0));
            }
        }
        UndoJourneys x = busy();
        int[] due = {995, 94, 3, 0, 0, 0};
        for (int journey = 0; journey < JOURNEYS; journey++) {
            is("journey " + journey, due[journey], x.restsIn(journey));
        }
    }

    /** The same data, but copied back behind other ticks. */
    private static UndoJourneys againAfterUndo(UndoJourneys x) {
        x.pass(20);
        x.undo();
        return x;
    }

    private void restsIn3000() {
        sentence("-1 if it is not within 3000 ticks");
        // The longest way that a single journey with the greatest numbers goes is far within 3000 ticks.
        String stages = "0*1:99 undo 8" + " then 0*1:99 undo 8".repeat(3);
        UndoJourneys x = Texts.loaded("trips;patience 9;stock 9 1;stock 0 1;journey 999 " + stages + " then 1*1:1 again 9;");
        int failed = 999 + 4 * 100 + 9;
        is("the longest way", failed + 4 * 9 + 2, x.restsIn(0));
        is("a tick before", 2, x.stateAfter(0, failed + 4 * 9 + 1));
        is("behind it", 4, x.stateAfter(0, failed + 4 * 9 + 2));
    }

    private void stateAfter() {
        sentence("Returns its state after so many ticks.");
        int[] due = {0, 1, 1, 1, 2, 2, 5, 5};
        for (int ticks = 0; ticks < due.length; ticks++) {
            is("behind " + ticks, due[ticks], Texts.loaded(PARKS).stateAfter(0, ticks));
            is("the same at that time", due[ticks], after(PARKS, ticks).stateAfter(0, 0));
        }
        is("behind 3000", 5, Texts.loaded(PARKS).stateAfter(0, 3000));
        UndoJourneys x = busy();
        int[] later = {0, 1, 2, 3, 4, 5};
        for (int journey = 0; journey < JOURNEYS; journey++) {
            is("behind 0, journey " + journey, later[journey], x.stateAfter(journey, 0));
        }
        is("behind 993", 0, x.stateAfter(TO_COME, 993));
        is("behind 994", 1, x.stateAfter(TO_COME, 994));
        is("behind 995", 3, x.stateAfter(TO_COME, 995));
    }

    private void forecastsBeyond9999() {
        sentence("Predicts a journey, if nothing but ticks pass (the time may exceed 9999 for this).");
        UndoJourneys x = after(PARKS.replace("1*1:1", "1*1:99"), 9999);
        is("goForward", 1, x.goForward(0));
        x.restock(1, 1);
        is("restsIn", 100, x.restsIn(0));
        is("stateAfter 99", 1, x.stateAfter(0, 99));
        is("stateAfter 100", 3, x.stateAfter(0, 100));
        is("stateAfter 3000", 3, x.stateAfter(0, 3000));
        is("help", 0, x.help(0, 0));
        is("the time stays", 9999, x.state(0));
    }

    private void help() {
        sentence("Returns the smallest number of 0 to 999 by which the level of the stock would have to become greater now, "
            + "so that the journey is done after 1100 ticks, if nothing but ticks pass; -1 if there is none.");
        is("0, it will be done", 0, Texts.loaded("trips;stock 3 1;journey 0 0*3:1;").help(0, 0));
        is("0, it is done", 0, after("trips;stock 3 1;journey 0 0*3:1;", 2).help(0, 0));
        is("1", 1, Texts.loaded("trips;stock 2 1;journey 0 0*3:1;").help(0, 0));
        is("998", 998, Texts.loaded("trips;stock 1 1;journey 0 0*999:1;").help(0, 0));
        is("999", 999, Texts.loaded("trips;stock 0 1;journey 0 0*999:1;").help(0, 0));
        is("999 for two steps", 999, Texts.loaded("trips;stock 1 1;journey 0 0*999:1 then 0*1:1;").help(0, 0));
        is("1000 would help", -1, Texts.loaded("trips;stock 0 1;journey 0 0*999:1 then 0*1:1;").help(0, 0));
        is("another stock lacks", -1, Texts.loaded("trips;stock 0 1;stock 9 1;journey 0 0*1:1;").help(0, 1));
        is("it is undone", -1, after("trips;stock 0 1;journey 0 0*1:1;", 2).help(0, 0));
        is("it is parked", -1, after(PARKS, 6).help(0, 1));
        is("it is undoing", -1, after("trips;stock 0 1;journey 0 0*1:1;", 1).help(0, 0));
        is("it has a repeat left", 1, after("trips;stock 0 1;journey 0 0*1:1 again 1;", 1).help(0, 0));
    }

    private void helpIn1100Ticks() {
        sentence("so that the journey is done after 1100 ticks");
        // It starts at 999, stage 0 is over at 999 + d, stage 1 at 1001 + d, so it is done after 1002 + d ticks.
        String text = "trips;stock 9 1;stock 0 1;journey 999 0*1:%d then 1*1:1;";
        is("after just 1100 ticks", 1, Texts.loaded(String.format(text, 98)).help(0, 1));
        is("after 1101 ticks", -1, Texts.loaded(String.format(text, 99)).help(0, 1));
        UndoJourneys x = Texts.loaded(String.format(text, 99));
        x.pass(1);
        is("after 1100 ticks from now", 1, x.help(0, 1));
        x.restock(1, 1);
        is("after 1100 ticks without help", 0, x.help(0, 1));
        x.undo();
        x.undo();
        x.restock(1, 1);
        is("after 1101 ticks without help", -1, x.help(0, 1));
    }

    private void helpOfMore() {
        sentence("the smallest number of 0 to 999");
        // With 2, 3 or 4 more journey 0 takes what journey 1 wants; with 5 both have enough.
        String text = "trips;stock %d 9;journey 0 0*5:9;journey 0 0*3:1;";
        int[] due = {3, 2, 1, 0, 0, 3, 2, 1, 0};
        for (int level = 0; level < due.length; level++) {
            is("at the level " + level, due[level], Texts.loaded(String.format(text, level)).help(1, 0));
        }
        int[] first = {5, 4, 3, 2, 1, 0};
        for (int level = 0; level < first.length; level++) {
            is("the first one at the level " + level, first[level], Texts.loaded(String.format(text, level)).help(0, 0));
        }
        UndoJourneys two = Texts.loaded("trips;stock 0 9;stock 0 9;journey 0 0*1:1 then 1*7:1;journey 0 1*7:1;journey 0 0*7:9;");
        is("one stock alone does not help", -1, two.help(0, 0));
        is("one stock alone does not help", -1, two.help(0, 1));
        two.restock(1, 14);
        is("the other one is there", 1, two.help(0, 0));
        is("twice gives the same", 1, two.help(0, 0));
    }
}
