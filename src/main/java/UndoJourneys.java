import java.util.Arrays;
import java.util.NoSuchElementException;

/** Compensated journeys; see the README for how to use it. */
public final class UndoJourneys {
    public static final int SYNTAX_ERROR = -2;
    public static final int OUT_OF_RANGE = -3;
    public static final int TOO_MANY = -4;

    private static final int MAX_STOCKS = 6;
    private static final int MAX_JOURNEYS = 8;
    private static final int MAX_STAGES = 5;
    private static final int MAX_STEPS_OF_STAGE = 3;
    private static final int MAX_STEPS = 40;

    private static final int MAX_LEVEL = 9999;
    private static final int MAX_GUARD = 9;
    private static final int MAX_START = 999;
    private static final int MAX_AMOUNT = 999;
    private static final int MAX_DURATION = 99;
    private static final int MAX_FAILURES = 9;
    private static final int MAX_REPEATS = 9;
    private static final int MAX_WAIT = 99;
    private static final int MAX_PATIENCE = 9;
    private static final int USUAL_WAIT = 5;
    private static final int USUAL_PATIENCE = 3;

    private static final int BUFFER_SIZE = 700;
    private static final int APPENDED_BYTES = 20;
    private static final int MAX_UNDOABLE = 8;
    private static final int MAX_TIME = 9999;
    private static final int MAX_PASS = 200;
    private static final int MAX_FORECAST = 3000;
    private static final int HELP_TICKS = 1100;
    private static final int MAX_HELP = 999;
    private static final int MAX_RESTOCK = 999;

    private static final int STATE_NUMBERS = 10;
    private static final int STOCK_NUMBERS = 6;
    private static final int JOURNEY_NUMBERS = 7;
    private static final int STEP_NUMBERS = 7;
    private static final int FIRST_CHANGING_STEP_NUMBER = 4;

    private static final int NO_JOURNEY = -1;

    /** Greater than every time, lack and number that the document allows. */
    private static final int BEYOND_ALL = 1000000;

    private final byte[] buffer = new byte[BUFFER_SIZE];
    private int bufferLength = 0;
    private int lastErrorOffset = -1;
    private final World now;
    private final World forecast;
    private final World[] past = new World[MAX_UNDOABLE];
    private int undoable = 0;

    public UndoJourneys() {
        Setup none = new Setup();
        now = new World(none);
        forecast = new World(none);
        for (int i = 0; i < past.length; i++) {
            past[i] = new World(none);
        }
    }

    public int append(int w0, int w1, int w2, int w3, int w4) {
        if (bufferLength + APPENDED_BYTES > BUFFER_SIZE) {
            return -1;
        }
        putWord(w0);
        putWord(w1);
        putWord(w2);
        putWord(w3);
        putWord(w4);
        return bufferLength;
    }

    public int load(int length) throws IllegalArgumentException {
        if (length < 0 || length > bufferLength) {
            throw new IllegalArgumentException("the buffer has not so many bytes");
        }
        SetupReader reader = new SetupReader(buffer, length);
        reader.readSetup();
        bufferLength = 0;
        lastErrorOffset = reader.errorAt;
        if (reader.error != 0) {
            return reader.error;
        }
        remember();
        now.begin(reader.setup);
        return now.setup.journeys;
    }

    public int errorOffset() {
        return lastErrorOffset;
    }

    public int state(int what) throws IllegalArgumentException {
        checkWhat(what, STATE_NUMBERS);
        return now.numberOfAll(what);
    }

    public int stock(int stock, int what) throws IndexOutOfBoundsException, IllegalArgumentException {
        checkStock(stock);
        checkWhat(what, STOCK_NUMBERS);
        return now.numberOfStock(stock, what);
    }

    public int journey(int journey, int what) throws IndexOutOfBoundsException, IllegalArgumentException {
        checkJourney(journey);
        checkWhat(what, JOURNEY_NUMBERS);
        return now.numberOfJourney(journey, what);
    }

    public int step(int journey, int step, int what)
            throws IndexOutOfBoundsException, NoSuchElementException, IllegalArgumentException {
        checkJourney(journey);
        if (step < 0 || step >= now.setup.stepsOf(journey)) {
            throw new NoSuchElementException("no such step");
        }
        checkWhat(what, STEP_NUMBERS);
        return now.numberOfStep(now.setup.firstStep[journey] + step, what);
    }

    public int owed(int journey, int place) throws IndexOutOfBoundsException, NoSuchElementException {
        checkJourney(journey);
        int step = place < 0 ? -1 : now.doneStepFromBehind(journey, place);
        if (step < 0) {
            throw new NoSuchElementException("not so many steps are done");
        }
        return step - now.setup.firstStep[journey];
    }

    public int restsIn(int journey) throws IndexOutOfBoundsException {
        checkJourney(journey);
        forecast.copyFrom(now);
        forecast.passTicks(MAX_FORECAST, journey);
        return forecast.rests(journey) ? forecast.time - now.time : -1;
    }

    public int stateAfter(int journey, int ticks) throws IndexOutOfBoundsException, IllegalArgumentException {
        checkJourney(journey);
        if (ticks < 0 || ticks > MAX_FORECAST) {
            throw new IllegalArgumentException("ticks is out of range");
        }
        forecast.copyFrom(now);
        forecast.passTicks(ticks, journey);
        return forecast.journeyState[journey];
    }

    public int help(int journey, int stock) throws IndexOutOfBoundsException {
        checkJourney(journey);
        checkStock(stock);
        // A run with more of the stock goes as this one did until one of the
        // lacks in it is made up for, so the amounts between are passed over.
        for (int more = 0; more <= MAX_HELP; more += Math.max(1, forecast.leastLack[stock])) {
            forecast.copyFrom(now);
            forecast.level[stock] += more;
            forecast.passTicks(HELP_TICKS, journey);
            if (forecast.journeyState[journey] == World.JOURNEY_DONE) {
                return more;
            }
        }
        return -1;
    }

    public int pass(int ticks) throws IllegalArgumentException {
        if (ticks < 1 || ticks > MAX_PASS || now.time + ticks > MAX_TIME) {
            throw new IllegalArgumentException("ticks is out of range");
        }
        remember();
        int endedBefore = now.endedJourneys();
        now.passTicks(ticks, NO_JOURNEY);
        return now.endedJourneys() - endedBefore;
    }

    public int settle(int journey) throws IndexOutOfBoundsException, IllegalStateException {
        checkJourney(journey);
        checkParked(journey);
        remember();
        return now.putLastStepAway(journey, World.UNDONE);
    }

    public int writeOff(int journey) throws IndexOutOfBoundsException, IllegalStateException {
        checkJourney(journey);
        checkParked(journey);
        remember();
        return now.putLastStepAway(journey, World.WRITTEN_OFF);
    }

    public int goForward(int journey) throws IndexOutOfBoundsException, IllegalStateException {
        checkJourney(journey);
        checkParked(journey);
        remember();
        return now.letGoForward(journey);
    }

    public int restock(int stock, int amount) throws IndexOutOfBoundsException, IllegalArgumentException {
        checkStock(stock);
        if (amount < 1 || amount > MAX_RESTOCK) {
            throw new IllegalArgumentException("amount is out of range");
        }
        remember();
        now.level[stock] += amount;
        return now.level[stock];
    }

    public int undo() {
        if (undoable < 1) {
            return -1;
        }
        undoable--;
        now.copyFrom(past[undoable]);
        return undoable;
    }

    public long checksum() {
        long sum = 0;
        for (int what = 0; what < STATE_NUMBERS; what++) {
            sum = 31 * sum + now.numberOfAll(what);
        }
        for (int stock = 0; stock < now.setup.stocks; stock++) {
            for (int what = 0; what < STOCK_NUMBERS; what++) {
                sum = 31 * sum + now.numberOfStock(stock, what);
            }
        }
        for (int journey = 0; journey < now.setup.journeys; journey++) {
            sum = sumWithJourney(sum, journey);
        }
        return sum;
    }

    private long sumWithJourney(long before, int journey) {
        long sum = before;
        for (int what = 0; what < JOURNEY_NUMBERS; what++) {
            sum = 31 * sum + now.numberOfJourney(journey, what);
        }
        int end = now.setup.endStep[journey];
        for (int step = now.setup.firstStep[journey]; step < end; step++) {
            for (int what = FIRST_CHANGING_STEP_NUMBER; what < STEP_NUMBERS; what++) {
                sum = 31 * sum + now.numberOfStep(step, what);
            }
        }
        return sum;
    }

    private void putWord(int word) {
        for (int shift = 24; shift >= 0; shift -= 8) {
            buffer[bufferLength] = (byte) (word >>> shift);
            bufferLength++;
        }
    }

    /** Keeps the data as they are before a change; a ninth row takes the place of the oldest one. */
    private void remember() {
        if (undoable >= MAX_UNDOABLE) {
            World oldest = past[0];
            for (int i = 1; i < past.length; i++) {
                past[i - 1] = past[i];
            }
            past[past.length - 1] = oldest;
            undoable = MAX_UNDOABLE - 1;
        }
        past[undoable].copyFrom(now);
        undoable++;
    }

    private void checkStock(int stock) {
        if (stock < 0 || stock >= now.setup.stocks) {
            throw new IndexOutOfBoundsException("no such stock");
        }
    }

    private void checkJourney(int journey) {
        if (journey < 0 || journey >= now.setup.journeys) {
            throw new IndexOutOfBoundsException("no such journey");
        }
    }

    private void checkParked(int journey) {
        if (now.journeyState[journey] != World.PARKED) {
            throw new IllegalStateException("the journey is not parked");
        }
    }

    private static void checkWhat(int what, int numbers) {
        if (what < 0 || what >= numbers) {
            throw new IllegalArgumentException("what is out of range");
        }
    }

    /** What a setup text tells; nothing in it changes once it is read. */
    private static final class Setup {
        int wait = USUAL_WAIT;
        int patience = USUAL_PATIENCE;

        int stocks = 0;
        final int[] firstLevel = new int[MAX_STOCKS];
        final int[] guard = new int[MAX_STOCKS];

        int journeys = 0;
        final int[] start = new int[MAX_JOURNEYS];
        final int[] stageCount = new int[MAX_JOURNEYS];
        final int[] firstStep = new int[MAX_JOURNEYS];
        /** The step behind the last one of a journey. */
        final int[] endStep = new int[MAX_JOURNEYS];

        int steps = 0;
        final int[] stageOf = new int[MAX_STEPS];
        final int[] stockOf = new int[MAX_STEPS];
        final int[] amount = new int[MAX_STEPS];
        final int[] duration = new int[MAX_STEPS];
        final int[] failures = new int[MAX_STEPS];
        final int[] repeats = new int[MAX_STEPS];

        int stepsOf(int journey) {
            return endStep[journey] - firstStep[journey];
        }

        boolean hasRoomForStock() {
            return stocks < MAX_STOCKS;
        }

        boolean hasRoomForJourney() {
            return journeys < MAX_JOURNEYS;
        }

        boolean hasRoomForStep() {
            return steps < MAX_STEPS;
        }

        void addStock(int level, int guardOfStock) {
            if (hasRoomForStock()) {
                firstLevel[stocks] = level;
                guard[stocks] = guardOfStock;
                stocks++;
            }
        }

        void addJourney(int startOfJourney) {
            if (hasRoomForJourney()) {
                start[journeys] = startOfJourney;
                firstStep[journeys] = steps;
                endStep[journeys] = steps;
                journeys++;
            }
        }

        /** Adds a step to the latest journey. */
        void addStep(int stage, int stock, int amountOfStep, int ticks, int undoFailures, int again) {
            if (hasRoomForStep() && journeys > 0) {
                stageOf[steps] = stage;
                stockOf[steps] = stock;
                amount[steps] = amountOfStep;
                duration[steps] = ticks;
                failures[steps] = undoFailures;
                repeats[steps] = again;
                steps++;
                endStep[journeys - 1] = steps;
                stageCount[journeys - 1] = stage + 1;
            }
        }
    }

    /** Reads a setup text from left to right; what it reads is of no use behind the first error. */
    private static final class SetupReader {
        private static final int END = 0;
        private static final int NUMBER = 1;
        private static final int WORD = 2;
        private static final int SIGN = 3;
        private static final int SPACE = 4;
        private static final int NO_TOKEN = 5;

        final Setup setup = new Setup();
        int error = 0;
        int errorAt = -1;

        private final byte[] text;
        private final int length;
        private boolean waitIsTold = false;
        private boolean patienceIsTold = false;
        private int kind = END;
        private int tokenStart = 0;
        private int tokenEnd = 0;
        private int number = 0;

        SetupReader(byte[] text, int length) {
            this.text = text;
            this.length = Math.max(0, Math.min(length, text.length));
        }

        void readSetup() {
            nextToken();
            takeWord("trips");
            takeSign(';');
            for (int i = 0; i < length && error == 0 && kind != END; i++) {
                if (wordIs("stock")) {
                    readStock();
                } else if (wordIs("journey")) {
                    readJourney();
                } else if (wordIs("wait") && !waitIsTold) {
                    waitIsTold = true;
                    nextToken();
                    setup.wait = readNumber(1, MAX_WAIT);
                } else if (wordIs("patience") && !patienceIsTold) {
                    patienceIsTold = true;
                    nextToken();
                    setup.patience = readNumber(1, MAX_PATIENCE);
                } else {
                    fail(SYNTAX_ERROR, tokenStart);
                }
                takeSign(';');
            }
        }

        private void readStock() {
            if (!setup.hasRoomForStock()) {
                fail(TOO_MANY, tokenStart);
                return;
            }
            nextToken();
            int level = readNumber(0, MAX_LEVEL);
            int guard = readNumber(1, MAX_GUARD);
            setup.addStock(level, guard);
        }

        private void readJourney() {
            if (!setup.hasRoomForJourney()) {
                fail(TOO_MANY, tokenStart);
                return;
            }
            nextToken();
            int start = readNumber(0, MAX_START);
            setup.addJourney(start);
            int stage = 0;
            int ofStage = 1;
            readStep(stage);
            for (int i = 0; i < MAX_STEPS && error == 0 && (wordIs("and") || wordIs("then")); i++) {
                boolean isParallel = wordIs("and");
                ofStage = isParallel ? ofStage + 1 : 1;
                stage = isParallel ? stage : stage + 1;
                if (ofStage > MAX_STEPS_OF_STAGE || stage >= MAX_STAGES) {
                    fail(TOO_MANY, tokenStart);
                    return;
                }
                nextToken();
                readStep(stage);
            }
        }

        private void readStep(int stage) {
            int stepStart = tokenStart;
            int stock = readNumber(0, setup.stocks - 1);
            if (!setup.hasRoomForStep()) {
                fail(TOO_MANY, stepStart);
                return;
            }
            takeSign('*');
            int amount = readNumber(1, MAX_AMOUNT);
            takeSign(':');
            int duration = readNumber(1, MAX_DURATION);
            int failures = skipsWord("undo") ? readNumber(0, MAX_FAILURES) : 0;
            int repeats = skipsWord("again") ? readNumber(0, MAX_REPEATS) : 0;
            setup.addStep(stage, stock, amount, duration, failures, repeats);
        }

        /** Takes a number of this range; if there is none, 0 with the error noted. */
        private int readNumber(int least, int most) {
            if (kind != NUMBER) {
                fail(SYNTAX_ERROR, tokenStart);
                return 0;
            }
            if (number < least || number > most) {
                fail(OUT_OF_RANGE, tokenStart);
                return 0;
            }
            int taken = number;
            nextToken();
            return taken;
        }

        private void takeWord(String word) {
            if (!skipsWord(word)) {
                fail(SYNTAX_ERROR, tokenStart);
            }
        }

        private boolean skipsWord(String word) {
            if (!wordIs(word)) {
                return false;
            }
            nextToken();
            return true;
        }

        private void takeSign(char sign) {
            if (kind != SIGN || text[tokenStart] != sign) {
                fail(SYNTAX_ERROR, tokenStart);
                return;
            }
            nextToken();
        }

        /** Notes an error. The text is read from the left, so the first one noted is the first one in it. */
        private void fail(int code, int offset) {
            if (error == 0) {
                error = code;
                errorAt = offset;
            }
        }

        private boolean wordIs(String word) {
            if (kind != WORD || tokenEnd - tokenStart != word.length()) {
                return false;
            }
            for (int i = 0; i < word.length(); i++) {
                if (text[tokenStart + i] != word.charAt(i)) {
                    return false;
                }
            }
            return true;
        }

        private void nextToken() {
            tokenStart = tokenEnd;
            while (tokenStart < length && kindAt(tokenStart) == SPACE) {
                tokenStart++;
            }
            kind = kindAt(tokenStart);
            number = 0;
            tokenEnd = tokenStart;
            if (kind == SIGN || kind == NO_TOKEN) {
                tokenEnd++;
                return;
            }
            for (; tokenEnd < length && kindAt(tokenEnd) == kind; tokenEnd++) {
                if (kind == NUMBER) {
                    // A number may have hundreds of digits; one beyond all ranges stays there.
                    number = Math.min(BEYOND_ALL, 10 * number + text[tokenEnd] - '0');
                }
            }
        }

        private int kindAt(int offset) {
            if (offset < 0 || offset >= length) {
                return END;
            }
            byte b = text[offset];
            if (b >= '0' && b <= '9') {
                return NUMBER;
            }
            if (b >= 'a' && b <= 'z') {
                return WORD;
            }
            if (b == ';' || b == '*' || b == ':') {
                return SIGN;
            }
            return b == ' ' ? SPACE : NO_TOKEN;
        }
    }

    /** All data of a moment: the setup, the time, and what has come of stocks, journeys and steps. */
    private static final class World {
        static final int NOT_BEGUN = 0;
        static final int READY = 1;
        static final int RUNNING = 2;
        static final int DONE = 3;
        static final int FAILED = 4;
        static final int UNDONE = 5;
        static final int WRITTEN_OFF = 6;

        static final int TO_COME = 0;
        static final int FORWARD = 1;
        static final int UNDOING = 2;
        static final int JOURNEY_DONE = 3;
        static final int JOURNEY_UNDONE = 4;
        static final int PARKED = 5;

        Setup setup;
        int time = 0;
        int failedUndos = 0;

        final int[] level = new int[MAX_STOCKS];
        /** By how much a level fell short of an amount since these data were copied, at the least. */
        final int[] leastLack = new int[MAX_STOCKS];

        final int[] journeyState = new int[MAX_JOURNEYS];
        final int[] presentStage = new int[MAX_JOURNEYS];
        final int[] restTime = new int[MAX_JOURNEYS];
        /** How often the undo has failed for the step that is to be undone now. */
        final int[] undoFails = new int[MAX_JOURNEYS];

        final int[] stepState = new int[MAX_STEPS];
        final int[] failuresLeft = new int[MAX_STEPS];
        final int[] repeatsLeft = new int[MAX_STEPS];
        final int[] beginTime = new int[MAX_STEPS];
        final int[] ticksWaited = new int[MAX_STEPS];

        World(Setup setup) {
            this.setup = setup;
        }

        void begin(Setup newSetup) {
            setup = newSetup;
            time = 0;
            failedUndos = 0;
            System.arraycopy(setup.firstLevel, 0, level, 0, MAX_STOCKS);
            Arrays.fill(journeyState, TO_COME);
            Arrays.fill(presentStage, 0);
            Arrays.fill(restTime, 0);
            Arrays.fill(undoFails, 0);
            Arrays.fill(stepState, NOT_BEGUN);
            System.arraycopy(setup.failures, 0, failuresLeft, 0, MAX_STEPS);
            System.arraycopy(setup.repeats, 0, repeatsLeft, 0, MAX_STEPS);
            Arrays.fill(beginTime, 0);
            Arrays.fill(ticksWaited, 0);
        }

        void copyFrom(World other) {
            setup = other.setup;
            time = other.time;
            failedUndos = other.failedUndos;
            System.arraycopy(other.level, 0, level, 0, MAX_STOCKS);
            Arrays.fill(leastLack, BEYOND_ALL);
            System.arraycopy(other.journeyState, 0, journeyState, 0, MAX_JOURNEYS);
            System.arraycopy(other.presentStage, 0, presentStage, 0, MAX_JOURNEYS);
            System.arraycopy(other.restTime, 0, restTime, 0, MAX_JOURNEYS);
            System.arraycopy(other.undoFails, 0, undoFails, 0, MAX_JOURNEYS);
            System.arraycopy(other.stepState, 0, stepState, 0, MAX_STEPS);
            System.arraycopy(other.failuresLeft, 0, failuresLeft, 0, MAX_STEPS);
            System.arraycopy(other.repeatsLeft, 0, repeatsLeft, 0, MAX_STEPS);
            System.arraycopy(other.beginTime, 0, beginTime, 0, MAX_STEPS);
            System.arraycopy(other.ticksWaited, 0, ticksWaited, 0, MAX_STEPS);
        }

        // What the data tell.

        int numberOfAll(int what) {
            switch (what) {
                case 0: return time;
                case 1: return setup.stocks;
                case 2: return setup.journeys;
                case 3: return setup.steps;
                case 4: return setup.wait;
                case 5: return setup.patience;
                case 6: return journeysIn(JOURNEY_DONE);
                case 7: return journeysIn(JOURNEY_UNDONE);
                case 8: return journeysIn(PARKED);
                default: return failedUndos;
            }
        }

        int numberOfStock(int stock, int what) {
            switch (what) {
                case 0: return level[stock];
                case 1: return setup.guard[stock];
                case 2: return holdersOf(stock);
                case 3: return amountInOpenJourneys(stock);
                case 4: return amountInDoneJourneys(stock);
                default: return amountWrittenOff(stock);
            }
        }

        int numberOfJourney(int journey, int what) {
            switch (what) {
                case 0: return journeyState[journey];
                case 1: return setup.start[journey];
                case 2: return setup.stageCount[journey];
                case 3: return setup.stepsOf(journey);
                case 4: return journeyState[journey] == FORWARD ? presentStage[journey] : -1;
                case 5: return rests(journey) ? restTime[journey] : -1;
                default: return amountOwed(journey);
            }
        }

        int numberOfStep(int step, int what) {
            switch (what) {
                case 0: return setup.stageOf[step];
                case 1: return setup.stockOf[step];
                case 2: return setup.amount[step];
                case 3: return setup.duration[step];
                case 4: return stepState[step];
                case 5: return failuresLeft[step];
                default: return repeatsLeft[step];
            }
        }

        boolean hasEnded(int journey) {
            return journeyState[journey] == JOURNEY_DONE || journeyState[journey] == JOURNEY_UNDONE;
        }

        /** Whether nothing happens to the journey any more if nothing but ticks pass. */
        boolean rests(int journey) {
            return hasEnded(journey) || journeyState[journey] == PARKED;
        }

        int endedJourneys() {
            return journeysIn(JOURNEY_DONE) + journeysIn(JOURNEY_UNDONE);
        }

        /** The place-th of the steps that are done, from behind; -1 if there are not so many. */
        int doneStepFromBehind(int journey, int place) {
            int before = place;
            for (int step = setup.endStep[journey] - 1; step >= setup.firstStep[journey]; step--) {
                if (stepState[step] == DONE) {
                    if (before == 0) {
                        return step;
                    }
                    before--;
                }
            }
            return -1;
        }

        private int journeysIn(int state) {
            int count = 0;
            for (int journey = 0; journey < setup.journeys; journey++) {
                if (journeyState[journey] == state) {
                    count++;
                }
            }
            return count;
        }

        private int holdersOf(int stock) {
            int holders = 0;
            for (int journey = 0; journey < setup.journeys; journey++) {
                if (!hasEnded(journey) && amountTakenBy(journey, stock) > 0) {
                    holders++;
                }
            }
            return holders;
        }

        private int amountInOpenJourneys(int stock) {
            int sum = 0;
            for (int journey = 0; journey < setup.journeys; journey++) {
                sum += hasEnded(journey) ? 0 : amountTakenBy(journey, stock);
            }
            return sum;
        }

        private int amountInDoneJourneys(int stock) {
            int sum = 0;
            for (int journey = 0; journey < setup.journeys; journey++) {
                sum += journeyState[journey] == JOURNEY_DONE ? amountTakenBy(journey, stock) : 0;
            }
            return sum;
        }

        /** The sum of the amounts of the steps of this stock that are running or done. */
        private int amountTakenBy(int journey, int stock) {
            int sum = 0;
            int end = setup.endStep[journey];
            for (int step = setup.firstStep[journey]; step < end; step++) {
                boolean isTaken = stepState[step] == RUNNING || stepState[step] == DONE;
                if (isTaken && setup.stockOf[step] == stock) {
                    sum += setup.amount[step];
                }
            }
            return sum;
        }

        private int amountWrittenOff(int stock) {
            int sum = 0;
            for (int step = 0; step < setup.steps; step++) {
                if (setup.stockOf[step] == stock && stepState[step] == WRITTEN_OFF) {
                    sum += setup.amount[step];
                }
            }
            return sum;
        }

        private int amountOwed(int journey) {
            if (journeyState[journey] != UNDOING && journeyState[journey] != PARKED) {
                return 0;
            }
            int sum = 0;
            int end = setup.endStep[journey];
            for (int step = setup.firstStep[journey]; step < end; step++) {
                if (stepState[step] == DONE) {
                    sum += setup.amount[step];
                }
            }
            return sum;
        }

        // The ticks.

        /** Lets ticks pass, but no more of them when the awaited journey rests. */
        void passTicks(int ticks, int awaited) {
            int end = time + ticks;
            for (int i = 0; i < ticks && time < end; i++) {
                if (awaited >= 0 && rests(awaited)) {
                    return;
                }
                // The ticks in which nothing happens are passed over.
                time = Math.min(end, nextEventTime());
                if (time < end) {
                    passTick();
                }
            }
        }

        private int nextEventTime() {
            int next = BEYOND_ALL;
            for (int journey = 0; journey < setup.journeys; journey++) {
                next = Math.min(next, nextEventTimeOf(journey));
            }
            return Math.max(time, next);
        }

        private int nextEventTimeOf(int journey) {
            switch (journeyState[journey]) {
                case TO_COME: return setup.start[journey];
                case FORWARD: return nextEventTimeForward(journey);
                case UNDOING: return time;
                default: return BEYOND_ALL;
            }
        }

        private int nextEventTimeForward(int journey) {
            int next = BEYOND_ALL;
            int end = setup.endStep[journey];
            for (int step = setup.firstStep[journey]; step < end; step++) {
                if (isPresent(journey, step) && stepState[step] == READY) {
                    return time;
                }
                if (isPresent(journey, step) && stepState[step] == RUNNING) {
                    next = Math.min(next, beginTime[step] + setup.duration[step]);
                }
            }
            // Without a running step the stage is left in this tick.
            return next == BEYOND_ALL ? time : next;
        }

        private void passTick() {
            int undoingAtBegin = 0;
            for (int journey = 0; journey < setup.journeys; journey++) {
                if (journeyState[journey] == UNDOING) {
                    undoingAtBegin |= 1 << journey;
                } else if (journeyState[journey] == TO_COME && setup.start[journey] == time) {
                    journeyState[journey] = FORWARD;
                    enterStage(journey, 0);
                }
            }
            for (int journey = 0; journey < setup.journeys; journey++) {
                if (journeyState[journey] == FORWARD) {
                    moveForward(journey);
                }
            }
            for (int journey = 0; journey < setup.journeys; journey++) {
                if ((undoingAtBegin >> journey & 1) == 1) {
                    undoLastStep(journey);
                }
            }
            time++;
        }

        private void moveForward(int journey) {
            int end = setup.endStep[journey];
            for (int step = setup.firstStep[journey]; step < end; step++) {
                if (isPresent(journey, step)) {
                    moveStep(journey, step);
                }
            }
            boolean failed = stageHas(journey, FAILED);
            if (failed) {
                withdrawReadySteps(journey);
            }
            if (stageIsOver(journey)) {
                enterStage(journey, presentStage[journey] + 1);
            } else if (failed && !stageHas(journey, RUNNING)) {
                journeyState[journey] = UNDOING;
                undoFails[journey] = 0;
            }
        }

        private void moveStep(int journey, int step) {
            if (stepState[step] == RUNNING) {
                if (time - beginTime[step] >= setup.duration[step]) {
                    stepState[step] = DONE;
                }
            } else if (stepState[step] == READY) {
                int stock = setup.stockOf[step];
                // An amount is at least 1, so what was taken of a stock tells whether it is held.
                boolean isHeld = amountTakenBy(journey, stock) > 0;
                if (!isHeld && holdersOf(stock) >= setup.guard[stock]) {
                    waitForGuard(step);
                } else {
                    takeAmount(step, stock);
                }
            }
        }

        private void waitForGuard(int step) {
            if (ticksWaited[step] >= setup.wait) {
                stepState[step] = FAILED;
            } else {
                ticksWaited[step]++;
            }
        }

        private void takeAmount(int step, int stock) {
            int lack = setup.amount[step] - level[stock];
            if (lack <= 0) {
                level[stock] -= setup.amount[step];
                stepState[step] = RUNNING;
                beginTime[step] = time;
                return;
            }
            leastLack[stock] = Math.min(leastLack[stock], lack);
            if (repeatsLeft[step] > 0) {
                repeatsLeft[step]--;
            } else {
                stepState[step] = FAILED;
            }
        }

        private boolean isPresent(int journey, int step) {
            return setup.stageOf[step] == presentStage[journey];
        }

        private boolean stageHas(int journey, int state) {
            int end = setup.endStep[journey];
            for (int step = setup.firstStep[journey]; step < end; step++) {
                if (isPresent(journey, step) && stepState[step] == state) {
                    return true;
                }
            }
            return false;
        }

        private boolean stageIsOver(int journey) {
            int end = setup.endStep[journey];
            for (int step = setup.firstStep[journey]; step < end; step++) {
                if (isPresent(journey, step) && isOpen(step)) {
                    return false;
                }
            }
            return true;
        }

        private boolean isOpen(int step) {
            return stepState[step] != DONE && stepState[step] != WRITTEN_OFF;
        }

        private void withdrawReadySteps(int journey) {
            int end = setup.endStep[journey];
            for (int step = setup.firstStep[journey]; step < end; step++) {
                if (isPresent(journey, step) && stepState[step] == READY) {
                    stepState[step] = NOT_BEGUN;
                }
            }
        }

        /** Makes this stage the present one; behind the last stage the journey is done. */
        private void enterStage(int journey, int stage) {
            if (stage >= setup.stageCount[journey]) {
                comeToRest(journey, JOURNEY_DONE);
                return;
            }
            presentStage[journey] = stage;
            int end = setup.endStep[journey];
            for (int step = setup.firstStep[journey]; step < end; step++) {
                if (isPresent(journey, step) && stepState[step] == NOT_BEGUN) {
                    stepState[step] = READY;
                    ticksWaited[step] = 0;
                }
            }
        }

        private void comeToRest(int journey, int state) {
            journeyState[journey] = state;
            restTime[journey] = time;
        }

        private void undoLastStep(int journey) {
            int step = doneStepFromBehind(journey, 0);
            if (step < 0) {
                comeToRest(journey, JOURNEY_UNDONE);
            } else if (failuresLeft[step] > 0) {
                failuresLeft[step]--;
                failedUndos++;
                undoFails[journey]++;
                if (undoFails[journey] >= setup.patience) {
                    comeToRest(journey, PARKED);
                }
            } else {
                putStepAway(journey, step, UNDONE);
            }
        }

        private void putStepAway(int journey, int step, int state) {
            if (state == UNDONE) {
                level[setup.stockOf[step]] += setup.amount[step];
            }
            stepState[step] = state;
            undoFails[journey] = 0;
        }

        // What people do.

        /** Settles a parked journey or writes its last step off; returns the step's number in it. */
        int putLastStepAway(int journey, int state) {
            int step = doneStepFromBehind(journey, 0);
            if (step < 0) {
                return -1;
            }
            putStepAway(journey, step, state);
            journeyState[journey] = UNDOING;
            return step - setup.firstStep[journey];
        }

        /** Returns the present stage then; -1 if no step is left to be done. */
        int letGoForward(int journey) {
            int stage = firstOpenStage(journey);
            if (stage < 0) {
                return -1;
            }
            int end = setup.endStep[journey];
            for (int step = setup.firstStep[journey]; step < end; step++) {
                if (isOpen(step)) {
                    stepState[step] = NOT_BEGUN;
                    repeatsLeft[step] = setup.repeats[step];
                }
            }
            journeyState[journey] = FORWARD;
            enterStage(journey, stage);
            return stage;
        }

        private int firstOpenStage(int journey) {
            int end = setup.endStep[journey];
            for (int step = setup.firstStep[journey]; step < end; step++) {
                if (isOpen(step)) {
                    return setup.stageOf[step];
                }
            }
            return -1;
        }
    }
}
