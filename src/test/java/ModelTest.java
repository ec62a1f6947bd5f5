import java.util.ArrayList;
import java.util.List;
import java.util.function.LongSupplier;

/** Runs of calls, made by a counter of their own, on the class and on the model side by side. */
public final class ModelTest {
    private static final int RUNS = 700;
    private static final int CALLS = 160;
    private static final int HELP_RUNS = 150;
    private static final int WIDE_RUNS = 300;
    private static final int WIDE_HELP_RUNS = 25;
    /** The calls that an object may be used for, less those that a text is read with. */
    private static final int WIDE_CALLS = 110;

    private final Check check = new Check("ModelTest");
    private final int[] seen = new int[64];
    private long seed;
    private UndoJourneys x;
    private Model m;
    private String story;

    public static void main(String[] args) {
        new ModelTest().all();
    }

    private void all() {
        for (int run = 0; run < RUNS; run++) {
            seed = run;
            begin("run " + run);
            for (int call = 0; call < CALLS && check.wrong() == 0; call++) {
                if (call % 80 == 0 || below(60) == 0) {
                    load(setup());
                } else {
                    call();
                }
            }
        }
        for (int run = 0; run < WIDE_RUNS && check.wrong() == 0; run++) {
            wideRun(run);
        }
        for (int run = 0; run < HELP_RUNS && check.wrong() == 0; run++) {
            seed = 1000000 + run;
            helpRun("help " + run, setup(), 12);
        }
        for (int run = 0; run < WIDE_HELP_RUNS && check.wrong() == 0; run++) {
            seed = 2000000 + run;
            helpRun("wide help " + run, wideSetup(), 200);
        }
        for (int run = 0; run < 20000 && check.wrong() == 0; run++) {
            seed = 7000000 + run;
            begin("text " + run);
            load(spoilt(setup()));
            load(spoilt(tooMany()));
        }
        check.note(seen[3] > 300 && seen[4] > 300 && seen[5] > 300, "too few journeys came to rest");
        check.note(seen[16] > 100 && seen[17] > 100 && seen[18] > 100, "too few were let go on");
        check.note(seen[20] > 500 && seen[21] > 500 && seen[22] > 500, "too few errors of texts");
        check.note(seen[30] > 20 && seen[31] > 20, "too few were helped, or too few were not");
        check.end();
    }

    /** A text with numbers of the whole ranges, and ticks by the dozen. */
    private void wideRun(int run) {
        seed = 3000000 + run;
        begin("wide " + run);
        load(wideSetup());
        for (int call = 0; call < WIDE_CALLS && check.wrong() == 0; call++) {
            if (below(3) == 0) {
                int ticks = 1 + below(below(4) == 0 ? 200 : 30);
                same("pass " + ticks, () -> x.pass(ticks), () -> m.pass(ticks));
                compare();
            } else {
                call();
            }
        }
    }

    private void helpRun(String name, String text, int mostTicks) {
        begin(name);
        load(text);
        if (m.data.journeys.isEmpty()) {
            return;
        }
        int ticks = 1 + below(mostTicks);
        same("pass " + ticks, () -> x.pass(ticks), () -> m.pass(ticks));
        int journey = below(m.data.journeys.size());
        int stock = below(m.data.stocks.size());
        long more = same("help " + journey + " " + stock, () -> x.help(journey, stock), () -> m.help(journey, stock));
        seen[more > 0 ? 30 : 31]++;
        compare();
    }

    private void begin(String name) {
        x = new UndoJourneys();
        m = new Model();
        story = name;
    }

    private int below(int n) {
        seed = seed * 6364136223846793005L + 1442695040888963407L;
        return (int) ((seed >>> 33) % n);
    }

    private String oneOf(String... all) {
        return all[below(all.length)];
    }

    private String setup() {
        StringBuilder b = new StringBuilder("trips;");
        int stocks = 1 + below(3);
        for (int i = 0; i < stocks; i++) {
            b.append("stock ").append(below(4) == 0 ? below(40) : below(14)).append(' ').append(1 + below(3)).append(';');
        }
        List<String> others = new ArrayList<>();
        if (below(3) > 0) {
            others.add("wait " + (1 + below(6)) + ";");
        }
        if (below(3) > 0) {
            others.add("patience " + (1 + below(4)) + ";");
        }
        int journeys = 1 + below(5);
        for (int i = 0; i < journeys; i++) {
            others.add(journeyText(stocks));
        }
        while (!others.isEmpty()) {
            b.append(others.remove(below(others.size())));
        }
        return b.length() > 700 ? "trips;" : b.toString();
    }

    private String journeyText(int stocks) {
        StringBuilder b = new StringBuilder("journey " + below(below(8) == 0 ? 60 : 6) + " ");
        int stages = 1 + below(4);
        for (int stage = 0; stage < stages; stage++) {
            b.append(stage == 0 ? "" : " then ");
            int steps = 1 + below(3);
            for (int step = 0; step < steps; step++) {
                b.append(step == 0 ? "" : " and ");
                b.append(below(stocks)).append('*').append(1 + below(7)).append(':').append(1 + below(below(9) == 0 ? 40 : 5));
                b.append(below(2) == 0 ? " undo " + below(7) : "").append(below(3) == 0 ? " again " + below(7) : "");
            }
        }
        return b.append(';').toString();
    }

    /** As many stocks, journeys and steps as there may be or as 700 bytes have room for, or somewhat fewer. */
    private String wideSetup() {
        StringBuilder b = new StringBuilder("trips;wait" + (1 + below(99)) + ";patience" + (1 + below(9)) + ";");
        int stocks = 1 + below(6);
        for (int i = 0; i < stocks; i++) {
            b.append("stock").append(below(below(3) == 0 ? 10000 : 1500)).append(' ').append(1 + below(below(3) == 0 ? 9 : 3)).append(';');
        }
        int journeys = 1 + below(8);
        int stepsLeft = 40;
        for (int i = 0; i < journeys && stepsLeft > 0; i++) {
            StringBuilder j = new StringBuilder("journey" + below(below(3) == 0 ? 1000 : 50));
            int steps = wideSteps(j, stocks, stepsLeft);
            if (b.length() + j.length() >= 700) {
                break;
            }
            stepsLeft -= steps;
            b.append(j).append(';');
        }
        return b.toString();
    }

    private int wideSteps(StringBuilder b, int stocks, int most) {
        int stages = 1 + below(5);
        int steps = 0;
        for (int stage = 0; stage < stages && steps < most; stage++) {
            int ofStage = Math.min(most - steps, 1 + below(3));
            for (int step = 0; step < ofStage; step++) {
                b.append(steps == 0 ? " " : step == 0 ? "then" : "and");
                b.append(below(stocks)).append('*').append(1 + below(999)).append(':').append(1 + below(below(3) == 0 ? 99 : 9));
                b.append(below(2) == 0 ? "undo" + below(10) : "").append(below(3) == 0 ? "again" + below(10) : "");
                steps++;
            }
        }
        return steps;
    }

    /** A text with more of one thing than is allowed, or just as many. */
    private String tooMany() {
        StringBuilder b = new StringBuilder("trips;");
        int stocks = 1 + below(7);
        for (int i = 0; i < stocks; i++) {
            b.append("stock 1 1;");
        }
        int journeys = 1 + below(9);
        int stages = 1 + below(6);
        int steps = 1 + below(3) + below(12) / 11;
        for (int i = 0; i < journeys; i++) {
            b.append("journey 1 0*1:1");
            for (int j = 1; j < stages * steps; j++) {
                b.append(j % steps == 0 ? "then" : "and").append("0*1:1");
            }
            b.append(';');
        }
        return b.length() > 700 ? b.substring(0, 700) : b.toString();
    }

    private String spoilt(String text) {
        StringBuilder b = new StringBuilder(text);
        int times = below(3);
        for (int i = 0; i < times; i++) {
            int at = below(b.length());
            String piece = oneOf(" ", "0", "9", "99", "000", "10000", ";", "*", ":", "a", "A", "\u00e9", "\u0000", "wait 3;",
                "patience 2;", "stock 3 1;", " and ", " then ", " undo 3", " again 3", "99999999999999999999", "then 0*1:1");
            if (below(3) == 0) {
                b.delete(at, Math.min(b.length(), at + 1 + below(3)));
            } else {
                b.insert(at, piece);
            }
            if (b.length() == 0) {
                break;
            }
        }
        if (below(10) == 0 && b.length() > 0) {
            b.setLength(below(b.length()));
        }
        return b.length() > 700 ? b.substring(0, 700) : b.toString();
    }

    private void load(String text) {
        int length = text.length();
        for (int at = 0; at < length; at += 20) {
            int[] w = new int[5];
            for (int i = 0; i < 20; i++) {
                w[i / 4] = w[i / 4] << 8 | (at + i < length ? text.charAt(at + i) : 32);
            }
            same("append", () -> x.append(w[0], w[1], w[2], w[3], w[4]), () -> m.append(w));
        }
        long answer = same("load " + text, () -> x.load(length), () -> m.load(length));
        if (answer < -1) {
            seen[18 - (int) answer]++;
        }
        same("errorOffset", () -> x.errorOffset(), () -> m.errorOffset);
        compare();
    }

    private void call() {
        int j = below(12) == 0 ? below(12) - 2 : below(Math.max(1, m.data.journeys.size()));
        int s = below(12) == 0 ? below(10) - 2 : below(Math.max(1, m.data.stocks.size()));
        int what = below(9) - 1;
        int step = below(20) - 1;
        int kind = below(24);
        int ticks = below(15) == 0 ? below(220) - 5 : 1 + below(4);
        switch (kind) {
            case 0: same("state " + what, () -> x.state(what), () -> m.state(what)); break;
            case 1: same("stock " + s + " " + what, () -> x.stock(s, what), () -> m.stock(s, what)); break;
            case 2: same("journey " + j + " " + what, () -> x.journey(j, what), () -> m.journey(j, what)); break;
            case 3: same("step", () -> x.step(j, step, what), () -> m.step(j, step, what)); break;
            case 4: same("owed " + j + " " + what, () -> x.owed(j, what), () -> m.owed(j, what)); break;
            case 5: same("restsIn " + j, () -> x.restsIn(j), () -> m.restsIn(j)); break;
            case 6: case 7: {
                int after = below(10) == 0 ? below(3100) - 50 : below(60);
                same("stateAfter " + j + " " + after, () -> x.stateAfter(j, after), () -> m.stateAfter(j, after));
                break;
            }
            case 8: {
                int amount = below(6) == 0 ? below(1100) - 50 : 1 + below(5);
                same("restock " + s + " " + amount, () -> x.restock(s, amount), () -> m.restock(s, amount));
                break;
            }
            case 9: case 10: same("settle " + j, () -> x.settle(j), () -> m.settle(j)); break;
            case 11: case 12: same("writeOff " + j, () -> x.writeOff(j), () -> m.writeOff(j)); break;
            case 13: case 14: same("goForward " + j, () -> x.goForward(j), () -> m.goForward(j)); break;
            case 15: same("undo", () -> x.undo(), () -> m.undo()); break;
            default: same("pass " + ticks, () -> x.pass(ticks), () -> m.pass(ticks)); break;
        }
        compare();
    }

    private void compare() {
        same("checksum", () -> x.checksum(), () -> m.checksum());
        for (Model.Journey j : m.data.journeys) {
            seen[j.state]++;
        }
    }

    /** Counts an exception as an answer of its own. */
    private long same(String call, LongSupplier ours, LongSupplier due) {
        if (!call.equals("checksum")) {
            story += "\n  " + call;
        }
        String got = answer(ours);
        String want = answer(due);
        check.note(got.equals(want), story + ": due is " + want + ", got " + got);
        if (want.matches("-?[0-9]+") && Long.parseLong(want) >= 0) {
            countPeople(call);
        }
        return want.matches("-?[0-9]+") ? Long.parseLong(want) : -1;
    }

    private void countPeople(String call) {
        if (call.startsWith("settle")) {
            seen[16]++;
        } else if (call.startsWith("writeOff")) {
            seen[17]++;
        } else if (call.startsWith("goForward")) {
            seen[18]++;
        }
    }

    private static String answer(LongSupplier call) {
        try {
            return Long.toString(call.getAsLong());
        } catch (RuntimeException e) {
            return e.getClass().getName();
        }
    }
}
