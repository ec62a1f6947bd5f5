import java.util.NoSuchElementException;
import java.util.function.Consumer;
import java.util.function.Supplier;

/** What the tests of boundary cases share: the sentence under test, and that a refused call changes nothing. */
abstract class Boundaries {
    static final Class<IllegalArgumentException> ARGUMENT = IllegalArgumentException.class;
    static final Class<IndexOutOfBoundsException> INDEX = IndexOutOfBoundsException.class;
    static final Class<NoSuchElementException> ELEMENT = NoSuchElementException.class;
    static final Class<IllegalStateException> STATE = IllegalStateException.class;

    /** At the time 6 its journeys are in the states 0 to 5, in this order. */
    private static final String ALL_STATES = "trips;patience 1;stock 90 9;stock 0 1;"
        + "journey 999 0*1:1;"
        + "journey 0 0*2:99;"
        + "journey 2 0*1:1 and 0*1:1 and 0*1:1 then 1*1:1;"
        + "journey 0 0*3:1;"
        + "journey 0 1*1:1;"
        + "journey 0 0*5:1 undo 2 then 1*1:1;";
    static final int TO_COME = 0;
    static final int FORWARD = 1;
    static final int UNDOING = 2;
    static final int DONE = 3;
    static final int UNDONE = 4;
    static final int PARKED = 5;
    static final int JOURNEYS = 6;
    static final int STOCKS = 2;

    private final Check check;
    private String sentence = "";

    Boundaries(String name) {
        check = new Check(name);
    }

    /** The sentence of the document that the answers behind it are due to. */
    final void sentence(String words) {
        sentence = words;
    }

    final void end() {
        check.end();
    }

    final void is(String what, long due, long got) {
        check.equal("'" + sentence + "': " + what, due, got);
    }

    /** An object with journeys in all states, changes to undo, an error behind it and a text in its buffer. */
    static UndoJourneys busy() {
        UndoJourneys x = Texts.loaded(ALL_STATES);
        x.pass(6);
        Texts.load(x, "trips;x");
        Texts.append(x, "trips;wait 9;");
        return x;
    }

    /** The call throws this, and behind it the object answers as one on which it was not made. */
    final void refuses(String what, Class<? extends RuntimeException> due, Supplier<UndoJourneys> maker,
            Consumer<UndoJourneys> call) {
        UndoJourneys other = maker.get();
        UndoJourneys x = maker.get();
        check.raises("'" + sentence + "': " + what, due, () -> call.accept(x));
        sameInAll(what, other, x);
    }

    final void refuses(String what, Class<? extends RuntimeException> due, Consumer<UndoJourneys> call) {
        refuses(what, due, Boundaries::busy, call);
    }

    /** Compares all that can be seen of two objects, the buffer and the changes to undo too; it uses them up. */
    final void sameInAll(String what, UndoJourneys due, UndoJourneys got) {
        is(what + ", error offset behind it", due.errorOffset(), got.errorOffset());
        sameData(what, due, got);
        Texts.append(due, " ");
        int length = Texts.append(due, " ");
        Texts.append(got, " ");
        is(what + ", length of the buffer behind it", length, Texts.append(got, " "));
        int read = length < 0 ? 700 : length;
        is(what + ", load behind it", due.load(read), got.load(read));
        is(what + ", error offset of a load behind it", due.errorOffset(), got.errorOffset());
        sameData(what + " and load", due, got);
        sameUndone(what, due, got);
    }

    /** Undoes all that can be undone. */
    final void sameUndone(String what, UndoJourneys due, UndoJourneys got) {
        for (int i = 1; i <= 9; i++) {
            is(what + " and undo " + i, due.undo(), got.undo());
            sameData(what + " and undo " + i, due, got);
        }
    }

    /** Compares what is and what comes. */
    final void sameData(String what, UndoJourneys due, UndoJourneys got) {
        is(what + ", checksum behind it", due.checksum(), got.checksum());
        for (int journey = 0; journey < due.state(2); journey++) {
            is(what + ", restsIn " + journey + " behind it", due.restsIn(journey), got.restsIn(journey));
        }
    }

    /** The object behind so many ticks; passed one by one and all at once they come to the same. */
    final UndoJourneys after(String text, int ticks) {
        UndoJourneys x = Texts.loaded(text);
        passAll(x, ticks);
        if (ticks <= 110) {
            UndoJourneys y = Texts.loaded(text);
            for (int i = 0; i < ticks; i++) {
                y.pass(1);
            }
            is("tick by tick, " + text, x.checksum(), y.checksum());
            return y;
        }
        return x;
    }

    static void passAll(UndoJourneys x, int ticks) {
        for (int left = ticks; left > 0; left -= 200) {
            x.pass(Math.min(200, left));
        }
    }

    final void steps(String what, UndoJourneys x, int journey, int... due) {
        for (int step = 0; step < due.length; step++) {
            is(what + ": state of step " + step + " of journey " + journey, due[step], x.step(journey, step, 4));
        }
    }

    final void journeyIs(String what, UndoJourneys x, int journey, int due) {
        is(what + ": state of journey " + journey, due, x.journey(journey, 0));
    }
}
