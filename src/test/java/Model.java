import java.util.ArrayDeque;
import java.util.ArrayList;
import java.util.Deque;
import java.util.List;
import java.util.NoSuchElementException;
import java.util.regex.Matcher;
import java.util.regex.Pattern;

/** The document word by word, without any shortcut: every tick is passed, every restocking is tried. */
final class Model {
    static final class Step {
        int stage, stock, amount, duration, failures, repeats;
        int state, failuresLeft, repeatsLeft, began, waited, undoFailed;

        Step copy() {
            Step c = new Step();
            c.stage = stage; c.stock = stock; c.amount = amount; c.duration = duration;
            c.failures = failures; c.repeats = repeats; c.state = state;
            c.failuresLeft = failuresLeft; c.repeatsLeft = repeatsLeft;
            c.began = began; c.waited = waited; c.undoFailed = undoFailed;
            return c;
        }

        boolean isOpen() {
            return state != 3 && state != 6;
        }
    }

    static final class Journey {
        int start, stages, state, present = -1, at = -1;
        List<Step> steps = new ArrayList<>();

        Journey copy() {
            Journey c = new Journey();
            c.start = start; c.stages = stages; c.state = state; c.present = present; c.at = at;
            for (Step s : steps) c.steps.add(s.copy());
            return c;
        }

        boolean hasEnded() {
            return state == 3 || state == 4;
        }

        boolean holds(int stock) {
            return !hasEnded() && steps.stream().anyMatch(s -> s.stock == stock && (s.state == 2 || s.state == 3));
        }

        Step lastDone() {
            Step last = null;
            for (Step s : steps) if (s.state == 3) last = s;
            return last;
        }
    }

    static final class Data {
        int time, wait = 5, patience = 3, failedUndos;
        List<int[]> stocks = new ArrayList<>();
        List<Journey> journeys = new ArrayList<>();

        Data copy() {
            Data c = new Data();
            c.time = time; c.wait = wait; c.patience = patience; c.failedUndos = failedUndos;
            for (int[] s : stocks) c.stocks.add(s.clone());
            for (Journey j : journeys) c.journeys.add(j.copy());
            return c;
        }

        void tick() {
            List<Journey> undoing = journeys.stream().filter(j -> j.state == 2).toList();
            for (Journey j : journeys) {
                if (j.state == 0 && j.start == time) {
                    j.state = 1;
                    j.present = 0;
                    for (Step s : j.steps) if (s.stage == 0) ready(s);
                }
            }
            for (Journey j : journeys) if (j.state == 1) forward(j);
            for (Journey j : undoing) undoOne(j);
            time++;
        }

        void ready(Step s) {
            s.state = 1;
            s.waited = 0;
        }

        void forward(Journey j) {
            List<Step> present = j.steps.stream().filter(s -> s.stage == j.present).toList();
            for (Step s : present) {
                if (s.state == 2 && time - s.began == s.duration) s.state = 3;
                else if (s.state == 1) begin(j, s);
            }
            boolean failed = present.stream().anyMatch(s -> s.state == 4);
            if (failed) for (Step s : present) if (s.state == 1) s.state = 0;
            if (present.stream().noneMatch(Step::isOpen)) {
                j.present++;
                if (j.present == j.stages) {
                    j.state = 3;
                    j.at = time;
                }
                for (Step s : j.steps) if (s.stage == j.present && s.state == 0) ready(s);
            } else if (failed && present.stream().noneMatch(s -> s.state == 2)) {
                j.state = 2;
                for (Step s : j.steps) s.undoFailed = 0;
            }
        }

        void begin(Journey j, Step s) {
            int[] stock = stocks.get(s.stock);
            long others = journeys.stream().filter(o -> o != j && o.holds(s.stock)).count();
            if (!j.holds(s.stock) && others == stock[1]) {
                if (s.waited == wait) s.state = 4;
                s.waited++;
            } else if (stock[0] < s.amount) {
                if (s.repeatsLeft > 0) s.repeatsLeft--;
                else s.state = 4;
            } else {
                stock[0] -= s.amount;
                s.state = 2;
                s.began = time;
            }
        }

        void undoOne(Journey j) {
            Step s = j.lastDone();
            if (s == null) {
                j.state = 4;
                j.at = time;
            } else if (s.failuresLeft > 0) {
                s.failuresLeft--;
                failedUndos++;
                s.undoFailed++;
                if (s.undoFailed == patience) {
                    j.state = 5;
                    j.at = time;
                }
            } else {
                stocks.get(s.stock)[0] += s.amount;
                s.state = 5;
            }
        }
    }

    static final class TextError extends RuntimeException {
        private static final long serialVersionUID = 1L;
        final int code, offset;

        TextError(int code, int offset) {
            this.code = code;
            this.offset = offset;
        }
    }

    private static final Pattern TOKEN = Pattern.compile(" *([0-9]+|[a-z]+|[^ ]|$)", Pattern.DOTALL);

    Data data = new Data();
    String buffer = "";
    int errorOffset = -1;
    final Deque<Data> past = new ArrayDeque<>();

    private String text;
    private String token;
    private int at;
    private int next;

    int append(int... words) {
        if (buffer.length() + 20 > 700) return -1;
        StringBuilder b = new StringBuilder(buffer);
        for (int w : words) for (int shift = 24; shift >= 0; shift -= 8) b.append((char) (w >>> shift & 255));
        buffer = b.toString();
        return buffer.length();
    }

    int load(int length) {
        if (length < 0 || length > buffer.length()) throw new IllegalArgumentException();
        text = buffer.substring(0, length);
        buffer = "";
        errorOffset = -1;
        try {
            Data read = readSetup();
            change();
            data = read;
            return data.journeys.size();
        } catch (TextError e) {
            errorOffset = e.offset;
            return e.code;
        }
    }

    private void shift() {
        Matcher m = TOKEN.matcher(text);
        m.region(next, text.length());
        if (!m.lookingAt()) throw new IllegalStateException();
        token = m.group(1);
        at = m.start(1);
        next = m.end(1);
    }

    private boolean takes(String s) {
        if (!token.equals(s)) return false;
        shift();
        return true;
    }

    private void take(String s) {
        if (!takes(s)) throw new TextError(-2, at);
    }

    private int number(int least, int most) {
        if (!token.matches("[0-9]+")) throw new TextError(-2, at);
        java.math.BigInteger n = new java.math.BigInteger(token);
        if (n.compareTo(java.math.BigInteger.valueOf(least)) < 0
                || n.compareTo(java.math.BigInteger.valueOf(most)) > 0) throw new TextError(-3, at);
        shift();
        return n.intValue();
    }

    private Data readSetup() {
        Data d = new Data();
        boolean wait = false, patience = false;
        next = 0;
        shift();
        take("trips");
        take(";");
        while (!token.isEmpty()) {
            int first = at;
            if (takes("stock")) {
                if (d.stocks.size() == 6) throw new TextError(-4, first);
                d.stocks.add(new int[] {number(0, 9999), number(1, 9)});
            } else if (takes("journey")) {
                if (d.journeys.size() == 8) throw new TextError(-4, first);
                readJourney(d);
            } else if (takes("wait")) {
                if (wait) throw new TextError(-2, first);
                wait = true;
                d.wait = number(1, 99);
            } else if (takes("patience")) {
                if (patience) throw new TextError(-2, first);
                patience = true;
                d.patience = number(1, 9);
            } else throw new TextError(-2, first);
            take(";");
        }
        return d;
    }

    private void readJourney(Data d) {
        Journey j = new Journey();
        j.start = number(0, 999);
        j.stages = 1;
        d.journeys.add(j);
        int inStage = 0;
        while (true) {
            int first = at;
            Step s = new Step();
            s.stage = j.stages - 1;
            s.stock = number(0, d.stocks.size() - 1);
            if (d.journeys.stream().mapToInt(o -> o.steps.size()).sum() == 40) throw new TextError(-4, first);
            take("*");
            s.amount = number(1, 999);
            take(":");
            s.duration = number(1, 99);
            if (takes("undo")) s.failures = number(0, 9);
            if (takes("again")) s.repeats = number(0, 9);
            s.failuresLeft = s.failures;
            s.repeatsLeft = s.repeats;
            j.steps.add(s);
            inStage++;
            int word = at;
            if (takes("and")) {
                if (inStage == 3) throw new TextError(-4, word);
            } else if (takes("then")) {
                if (j.stages == 5) throw new TextError(-4, word);
                j.stages++;
                inStage = 0;
            } else return;
        }
    }

    private void change() {
        past.addLast(data.copy());
        if (past.size() > 8) past.removeFirst();
    }

    private Journey at(int journey) {
        if (journey < 0 || journey >= data.journeys.size()) throw new IndexOutOfBoundsException();
        return data.journeys.get(journey);
    }

    private int[] stockAt(int stock) {
        if (stock < 0 || stock >= data.stocks.size()) throw new IndexOutOfBoundsException();
        return data.stocks.get(stock);
    }

    private static void range(int n, int least, int most) {
        if (n < least || n > most) throw new IllegalArgumentException();
    }

    int state(int what) {
        range(what, 0, 9);
        int[] all = {data.time, data.stocks.size(), data.journeys.size(),
            data.journeys.stream().mapToInt(j -> j.steps.size()).sum(), data.wait, data.patience,
            in(3), in(4), in(5), data.failedUndos};
        return all[what];
    }

    private int in(int state) {
        return (int) data.journeys.stream().filter(j -> j.state == state).count();
    }

    int stock(int stock, int what) {
        int[] s = stockAt(stock);
        range(what, 0, 5);
        int holders = 0, open = 0, done = 0, off = 0;
        for (Journey j : data.journeys) {
            if (j.holds(stock)) holders++;
            for (Step t : j.steps) {
                if (t.stock != stock) continue;
                if ((t.state == 2 || t.state == 3) && !j.hasEnded()) open += t.amount;
                if ((t.state == 2 || t.state == 3) && j.state == 3) done += t.amount;
                if (t.state == 6) off += t.amount;
            }
        }
        return new int[] {s[0], s[1], holders, open, done, off}[what];
    }

    int journey(int journey, int what) {
        Journey j = at(journey);
        range(what, 0, 6);
        int owes = 0;
        if (j.state == 2 || j.state == 5) for (Step s : j.steps) if (s.state == 3) owes += s.amount;
        return new int[] {j.state, j.start, j.stages, j.steps.size(), j.state == 1 ? j.present : -1,
            j.state >= 3 ? j.at : -1, owes}[what];
    }

    int step(int journey, int step, int what) {
        Journey j = at(journey);
        if (step < 0 || step >= j.steps.size()) throw new NoSuchElementException();
        range(what, 0, 6);
        Step s = j.steps.get(step);
        return new int[] {s.stage, s.stock, s.amount, s.duration, s.state, s.failuresLeft, s.repeatsLeft}[what];
    }

    int owed(int journey, int place) {
        Journey j = at(journey);
        List<Integer> done = new ArrayList<>();
        for (int i = j.steps.size() - 1; i >= 0; i--) if (j.steps.get(i).state == 3) done.add(i);
        if (place < 0 || place >= done.size()) throw new NoSuchElementException();
        return done.get(place);
    }

    int restsIn(int journey) {
        at(journey);
        Data d = data.copy();
        for (int ticks = 0; ticks <= 3000; ticks++) {
            if (d.journeys.get(journey).state >= 3) return ticks;
            d.tick();
        }
        return -1;
    }

    int stateAfter(int journey, int ticks) {
        at(journey);
        range(ticks, 0, 3000);
        return after(journey, -1, 0, ticks);
    }

    private int after(int journey, int stock, int more, int ticks) {
        Data d = data.copy();
        if (stock >= 0) d.stocks.get(stock)[0] += more;
        for (int i = 0; i < ticks; i++) {
            d.tick();
        }
        return d.journeys.get(journey).state;
    }

    int help(int journey, int stock) {
        at(journey);
        stockAt(stock);
        for (int more = 0; more <= 999; more++) if (after(journey, stock, more, 1100) == 3) return more;
        return -1;
    }

    int pass(int ticks) {
        range(ticks, 1, 200);
        range(data.time + ticks, 0, 9999);
        change();
        int before = in(3) + in(4);
        for (int i = 0; i < ticks; i++) data.tick();
        return in(3) + in(4) - before;
    }

    private Journey parked(int journey) {
        Journey j = at(journey);
        if (j.state != 5) throw new IllegalStateException();
        change();
        return data.journeys.get(journey);
    }

    int settle(int journey) {
        Journey j = parked(journey);
        Step s = j.lastDone();
        data.stocks.get(s.stock)[0] += s.amount;
        s.state = 5;
        letOn(j, 2);
        return j.steps.indexOf(s);
    }

    int writeOff(int journey) {
        Journey j = parked(journey);
        Step s = j.lastDone();
        s.state = 6;
        letOn(j, 2);
        return j.steps.indexOf(s);
    }

    private static void letOn(Journey j, int state) {
        j.state = state;
        for (Step s : j.steps) s.undoFailed = 0;
    }

    int goForward(int journey) {
        Journey j = parked(journey);
        Step open = j.steps.stream().filter(Step::isOpen).findFirst().orElse(null);
        if (open == null) return -1;
        j.present = open.stage;
        for (Step s : j.steps) {
            if (s.stage >= j.present && s.isOpen()) {
                s.state = 0;
                s.repeatsLeft = s.repeats;
                if (s.stage == j.present) data.ready(s);
            }
        }
        letOn(j, 1);
        return j.present;
    }

    int restock(int stock, int amount) {
        stockAt(stock);
        range(amount, 1, 999);
        change();
        return data.stocks.get(stock)[0] += amount;
    }

    int undo() {
        if (past.isEmpty()) return -1;
        data = past.removeLast();
        return past.size();
    }

    long checksum() {
        long sum = 0;
        for (int w = 0; w <= 9; w++) sum = 31 * sum + state(w);
        for (int s = 0; s < data.stocks.size(); s++) for (int w = 0; w <= 5; w++) sum = 31 * sum + stock(s, w);
        for (int j = 0; j < data.journeys.size(); j++) {
            for (int w = 0; w <= 6; w++) sum = 31 * sum + journey(j, w);
            for (int s = 0; s < data.journeys.get(j).steps.size(); s++) {
                for (int w = 4; w <= 6; w++) sum = 31 * sum + step(j, s, w);
            }
        }
        return sum;
    }
}
