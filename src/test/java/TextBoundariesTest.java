import java.math.BigInteger;
import java.util.function.ToIntFunction;

/** The sentences about the input buffer and the setup text that name a boundary case, each with its own test. */
public final class TextBoundariesTest extends Boundaries {
    private static final int SYNTAX = UndoJourneys.SYNTAX_ERROR;
    private static final int RANGE = UndoJourneys.OUT_OF_RANGE;
    private static final int MANY = UndoJourneys.TOO_MANY;
    private static final String STOCK = "stock 1 1;";
    private static final String STEP = "0*1:1";
    private static final String ONE = "journey 0 0*1:1;";
    /** Every token of the grammar, and every number of one digit. */
    private static final String[] TOKENS = ("trips ; stock 1 1 ; wait 1 ; journey 1 0 * 1 : 1 undo 1 again 1 and 0 * 1 : 1 "
        + "undo 1 then 0 * 1 : 1 again 1 ; patience 1 ; stock 0 9 ; journey 0 1 * 9 : 9 ;").split(" ");

    private TextBoundariesTest() {
        super("TextBoundariesTest");
    }

    public static void main(String[] args) {
        TextBoundariesTest test = new TextBoundariesTest();
        test.bufferOf700();
        test.bufferFull();
        test.orderOfBytes();
        test.lengthToRead();
        test.firstBytes();
        test.bufferBehindLoad();
        test.errorLeavesData();
        test.emptyText();
        test.answerOfLoad();
        test.errorOffset();
        test.numbersOfStock();
        test.numbersOfJourney();
        test.numbersOfStep();
        test.numbersOfWaitAndPatience();
        test.firstDigit();
        test.stockToldBefore();
        test.lengthOfNumbers();
        test.runsOfLettersAndDigits();
        test.spaces();
        test.otherBytes();
        test.optionalParts();
        test.waitAndPatienceOnce();
        test.textEndsTooEarly();
        test.tokenNotAllowed();
        test.tooManyStocks();
        test.tooManyJourneys();
        test.tooManyStages();
        test.tooManyStepsOfStage();
        test.tooManySteps();
        test.smallestOffset();
        test.sameOffset();
        test.end();
    }

    private UndoJourneys reads(String text, int answer, int offset) {
        UndoJourneys x = new UndoJourneys();
        is("load of " + text, answer, Texts.load(x, text));
        is("errorOffset of " + text, offset, x.errorOffset());
        return x;
    }

    private UndoJourneys readsWell(String text, int journeys) {
        return reads(text, journeys, -1);
    }

    /** The text with spaces in the midst, so that it has 700 bytes. */
    private static String of700(String begin, String end) {
        return begin + " ".repeat(700 - begin.length() - end.length()) + end;
    }

    private static UndoJourneys withBuffer(String text) {
        UndoJourneys x = busy();
        x.load(0);
        Texts.append(x, text);
        return x;
    }

    private void bufferOf700() {
        sentence("The setup text is read from an input buffer of at most 700 bytes.");
        is("the last of 700 bytes is read", 7, readsWell(of700("trips;", "wait 7;"), 0).state(4));
        reads(of700("trips;", "x"), SYNTAX, 699);
        reads(of700("trips;wait 7", ""), SYNTAX, 700);
        String full = "trips;" + "stock 1 1;".repeat(6) + ("journey 0 " + STEP + "then" + STEP + "then" + STEP + ";").repeat(8);
        readsWell(full + " ".repeat(700 - full.length()), 8);
    }

    private void bufferFull() {
        sentence("Returns the new length of the buffer; -1 if it would exceed 700 bytes, and the buffer is unchanged then.");
        UndoJourneys x = new UndoJourneys();
        String text = of700("trips;wait ", "7;");
        for (int length = 20; length <= 700; length += 20) {
            is("append up to " + length, length, Texts.append(x, text.substring(length - 20, length)));
        }
        is("append to 700 bytes", -1, Texts.append(x, "trips;wait 8;"));
        is("append to 700 bytes again", -1, x.append(0, 0, 0, 0, 0));
        is("the 700 bytes are as they were", 0, x.load(700));
        is("they were read", 7, x.state(4));
        is("append to the empty buffer", 20, Texts.append(x, "trips;"));
        sentence("Creates an object without stocks and journeys, with an empty input buffer.");
        is("the first append", 20, Texts.append(new UndoJourneys(), "trips;"));
        refuses("load(1)", ARGUMENT, UndoJourneys::new, y -> y.load(1));
    }

    private void orderOfBytes() {
        sentence("Appends 20 bytes to the input buffer: the 4 bytes of each argument, the most significant byte first.");
        for (int place = 0; place < 20; place++) {
            for (int b : new int[] {0, '!', 127, 128, 255}) {
                int[] w = {0x20202020, 0x20202020, 0x20202020, 0x20202020, 0x20202020};
                int shift = 24 - 8 * (place % 4);
                w[place / 4] = w[place / 4] & ~(255 << shift) | b << shift;
                UndoJourneys x = new UndoJourneys();
                is("append", 20, x.append(w[0], w[1], w[2], w[3], w[4]));
                is("the byte " + b + " at " + place, SYNTAX, x.load(20));
                is("the byte " + b + " at " + place + ", offset", place, x.errorOffset());
            }
        }
    }

    private void lengthToRead() {
        sentence("Throws `IllegalArgumentException` if length is negative or greater than the length of the buffer; "
            + "the buffer is unchanged then");
        for (int length : new int[] {-1, Integer.MIN_VALUE, 21, 700, Integer.MAX_VALUE}) {
            refuses("load(" + length + ") of 20", ARGUMENT, x -> x.load(length));
        }
        is("load(20) of 20", 0, busy().load(20));
        for (int length : new int[] {-1, 701}) {
            refuses("load(" + length + ") of 700", ARGUMENT, () -> withBuffer(of700("trips;", "wait 7;")), x -> x.load(length));
        }
        is("load(700) of 700", 0, withBuffer(of700("trips;", "wait 7;")).load(700));
        for (int length : new int[] {-1, 1}) {
            refuses("load(" + length + ") of nothing", ARGUMENT, () -> withBuffer(""), x -> x.load(length));
        }
    }

    private void firstBytes() {
        sentence("Reads the first bytes of the input buffer as a setup text and replaces all data by it; the time is 0.");
        String text = "trips;wait 9;patience 8;stock 3 2;x";
        int[][] due = {{6, 5, 3, 0}, {13, 9, 3, 0}, {24, 9, 8, 0}, {34, 9, 8, 1}};
        for (int[] d : due) {
            UndoJourneys x = withBuffer(text);
            is("load of the first " + d[0], 0, x.load(d[0]));
            is("wait", d[1], x.state(4));
            is("patience", d[2], x.state(5));
            is("stocks", d[3], x.state(1));
            for (int what : new int[] {0, 2, 3, 6, 7, 8, 9}) {
                is("nothing is left of state " + what, 0, x.state(what));
            }
        }
        reads(text, SYNTAX, 34);
        UndoJourneys used = withBuffer("");
        is("load of all states", 6, Texts.load(used, "trips;stock 9 1;" + ONE.repeat(6)));
        UndoJourneys fresh = Texts.loaded("trips;stock 9 1;" + ONE.repeat(6));
        is("an object used before", fresh.checksum(), used.checksum());
        used.pass(3);
        fresh.pass(3);
        sameData("ticks on an object used before", fresh, used);
    }

    private void bufferBehindLoad() {
        sentence("The input buffer is empty afterwards, also if the text has an error.");
        String[] texts = {"trips;", "trips;wait 7;", "trip", "trips;wait 0;", "trips;" + STOCK.repeat(7)};
        for (String text : texts) {
            UndoJourneys x = new UndoJourneys();
            Texts.load(x, text);
            is("append behind " + text, 20, Texts.append(x, "trips;"));
            refuses("load(1) behind " + text, ARGUMENT, () -> {
                UndoJourneys y = busy();
                y.load(0);
                Texts.load(y, text);
                return y;
            }, y -> y.load(1));
        }
        UndoJourneys x = busy();
        is("a text of none of the bytes", SYNTAX, x.load(0));
        is("append behind it", 20, Texts.append(x, "trips;"));
    }

    private void errorLeavesData() {
        sentence("An error leaves all other data unchanged.");
        String[] texts = {"", "trips;wait 9;patience 9;stock 9 9;journey 0 0*9:9", "trips;wait 9;stock 5 5;journey 0 0*1:100;",
            "trips;patience 9;" + STOCK.repeat(7), "trips;stock 9 9;" + ONE.repeat(9)};
        for (String text : texts) {
            UndoJourneys x = withBuffer("");
            is("it has an error, " + text, 1, Texts.load(x, text) < -1 ? 1 : 0);
            UndoJourneys other = withBuffer("");
            sameData("load of " + text, other, x);
            sameUndone("load of " + text, other, x);
        }
    }

    private void emptyText() {
        sentence("An empty text has a SYNTAX_ERROR.");
        UndoJourneys x = new UndoJourneys();
        is("load(0) of a new object", SYNTAX, x.load(0));
        is("its offset", 0, x.errorOffset());
        is("it is no change", -1, x.undo());
        for (String text : new String[] {"trips;", "  trips;", ";"}) {
            UndoJourneys y = withBuffer(text);
            is("load(0) of " + text, SYNTAX, y.load(0));
            is("the offset of load(0) of " + text, 0, y.errorOffset());
        }
        reads(" ", SYNTAX, 1);
        reads(of700("", ""), SYNTAX, 700);
    }

    private void answerOfLoad() {
        sentence("Returns the number of journeys; or the error code of the first error.");
        for (int journeys = 0; journeys <= 8; journeys++) {
            readsWell("trips;" + STOCK + ONE.repeat(journeys), journeys);
        }
        reads("trips", -2, 5);
        reads("trips;wait 0;", -3, 11);
        reads("trips;" + STOCK + ONE.repeat(9), -4, 144);
    }

    private void errorOffset() {
        sentence("Returns the offset of the error found by the latest call of load that did not throw; "
            + "-1 if it found none or if there was no such call.");
        UndoJourneys x = new UndoJourneys();
        is("no load", -1, x.errorOffset());
        raisesArgument(x);
        is("only a load that threw", -1, x.errorOffset());
        x.load(0);
        is("an error at 0", 0, x.errorOffset());
        raisesArgument(x);
        is("the error before a load that threw", 0, x.errorOffset());
        Texts.load(x, "trips;wait 100;");
        is("an error at 11", 11, x.errorOffset());
        Texts.load(x, "trips;");
        is("no error", -1, x.errorOffset());
        raisesArgument(x);
        is("no error before a load that threw", -1, x.errorOffset());
        Texts.load(x, of700("trips;", ";"));
        is("an error at the last byte", 699, x.errorOffset());
    }

    private void raisesArgument(UndoJourneys x) {
        int thrown = 0;
        try {
            x.load(1);
        } catch (IllegalArgumentException e) {
            thrown = 1;
        }
        is("load(1) throws", 1, thrown);
    }

    /** All numbers of this range are read, no others, however they are written. */
    private void range(String before, String behind, int least, int most, ToIntFunction<UndoJourneys> told) {
        for (int n : new int[] {least, least + 1, most - 1, most}) {
            if (n >= least && n <= most) {
                for (String zeros : new String[] {"", "0", "0".repeat(400)}) {
                    UndoJourneys x = new UndoJourneys();
                    String text = before + zeros + n + behind;
                    is("load of " + text, 0, Texts.load(x, text) < 0 ? 1 : 0);
                    is("what it tells", n, told.applyAsInt(x));
                }
            }
        }
        if (least > 0) {
            isBeyond(before, BigInteger.valueOf(least - 1), behind);
        }
        isBeyond(before, BigInteger.valueOf(most + 1), behind);
        for (int power : new int[] {7, 8, 15, 16, 31, 32, 63, 64, 128, 1000}) {
            BigInteger p = BigInteger.ONE.shiftLeft(power);
            for (BigInteger n : new BigInteger[] {p.subtract(BigInteger.ONE), p, p.add(BigInteger.valueOf(least)),
                    p.add(BigInteger.valueOf(most))}) {
                if (n.compareTo(BigInteger.valueOf(most)) > 0) {
                    isBeyond(before, n, behind);
                }
            }
        }
    }

    private void isBeyond(String before, BigInteger n, String behind) {
        reads(before + n + behind, RANGE, before.length());
        reads(before + "000" + n + behind, RANGE, before.length());
    }

    private void numbersOfStock() {
        sentence("A stock has a level (0 to 9999 at first) and a guard (1 to 9).");
        range("trips;stock ", " 1;", 0, 9999, x -> x.stock(0, 0));
        range("trips;stock 1 ", ";", 1, 9, x -> x.stock(0, 1));
        range("trips;stock 1 1;stock ", " 1;", 0, 9999, x -> x.stock(1, 0));
    }

    private void numbersOfJourney() {
        sentence("A journey has a start (0 to 999) and at most 5 stages in an order; a stage has 1 to 3 steps.");
        range("trips;stock 1 1;journey ", " 0*1:1;", 0, 999, x -> x.journey(0, 1));
        for (int stages = 1; stages <= 5; stages++) {
            for (int steps = 1; steps <= 3; steps++) {
                UndoJourneys x = readsWell("trips;" + STOCK + journey(stages, steps), 1);
                is("stages", stages, x.journey(0, 2));
                is("steps", stages * steps, x.journey(0, 3));
            }
        }
        reads("trips;" + STOCK + "journey 0;", SYNTAX, 25);
        reads("trips;" + STOCK + "journey 0 0*1:1 then;", SYNTAX, 36);
        reads("trips;" + STOCK + "journey 0 0*1:1 then then 0*1:1;", SYNTAX, 37);
        sentence("All steps of a journey are numbered from 0 in the order of the text.");
        UndoJourneys x = Texts.loaded("trips;stock 9 1;journey 0 0*9:1;journey 0 0*1:1 and 0*2:1 then 0*3:1 then 0*4:1 and 0*5:1;");
        for (int step = 0; step < 5; step++) {
            is("amount of step " + step, step + 1, x.step(1, step, 2));
        }
    }

    private static String journey(int stages, int steps) {
        String stage = STEP + ("and" + STEP).repeat(steps - 1);
        return "journey 0 " + stage + ("then" + stage).repeat(stages - 1) + ";";
    }

    private void numbersOfStep() {
        sentence("A step has a stock, an amount (1 to 999), a duration (1 to 99 ticks), failures (0 to 9: "
            + "how often its undo fails), and repeats (0 to 9).");
        String journey = "trips;stock 1 1;journey 0 ";
        range(journey + "0*", ":1;", 1, 999, x -> x.step(0, 0, 2));
        range(journey + "0*1:", ";", 1, 99, x -> x.step(0, 0, 3));
        range(journey + "0*1:1 undo ", ";", 0, 9, x -> x.step(0, 0, 5));
        range(journey + "0*1:1 again ", ";", 0, 9, x -> x.step(0, 0, 6));
        range(journey + "0*1:1 undo 9 again ", ";", 0, 9, x -> x.step(0, 0, 6));
        range(journey + "0*1:1 then 0*1:1 and 0*", ":1;", 1, 999, x -> x.step(0, 2, 2));
    }

    private void numbersOfWaitAndPatience() {
        sentence("it fails if it has waited in as many ticks as the wait (1 to 99) before this one already");
        range("trips;wait ", ";", 1, 99, x -> x.state(4));
        sentence("when it has failed as often as the patience (1 to 9)");
        range("trips;patience ", ";", 1, 9, x -> x.state(5));
    }

    private void firstDigit() {
        sentence("OUT_OF_RANGE: a number outside its range, at its first digit.");
        reads("trips;wait   000;", RANGE, 13);
        reads("trips;wait0;", RANGE, 10);
        reads("trips;stock 1   10;", RANGE, 16);
        reads("trips;" + STOCK + "journey 0 0*1:1 undo00010;", RANGE, 36);
        reads("trips;" + STOCK + "journey 0 0 * 01000:1;", RANGE, 30);
    }

    private void stockToldBefore() {
        sentence("Those of a step are a stock that was told before, the amount, the duration, "
            + "its failures (0 without undo) and its repeats (0 without again).");
        for (int stocks = 1; stocks <= 6; stocks++) {
            range("trips;" + STOCK.repeat(stocks) + "journey 0 ", "*1:1;", 0, stocks - 1, x -> x.step(0, 0, 1));
        }
        reads("trips;journey 0 0*1:1;", RANGE, 16);
        reads("trips;journey 0 0*1:1;" + STOCK, RANGE, 16);
        reads("trips;" + STOCK + "journey 0 1*1:1;" + STOCK, RANGE, 26);
        reads("trips;" + STOCK + "journey 0 0*1:1 and 1*1:1;" + STOCK, RANGE, 36);
        readsWell("trips;" + STOCK + ONE + STOCK + "journey 0 1*1:1;", 2);
        UndoJourneys x = readsWell("trips;" + STOCK + "journey 0 0*1:1 undo 3 and 0*1:1 again 4 and 0*1:1;", 1);
        int[][] due = {{3, 0}, {0, 4}, {0, 0}};
        for (int step = 0; step < 3; step++) {
            is("failures of step " + step, due[step][0], x.step(0, step, 5));
            is("repeats of step " + step, due[step][1], x.step(0, step, 6));
        }
    }

    private void lengthOfNumbers() {
        sentence("A number is a run of decimal digits, of any length (leading zeros do not matter)");
        is("a number up to the end of 700 bytes", 99, readsWell("trips;wait " + "0".repeat(686) + "99;", 0).state(4));
        reads("trips;wait " + "0".repeat(686) + "00;", RANGE, 11);
        reads("trips;wait " + "9".repeat(688) + ";", RANGE, 11);
        reads("trips;wait 1" + "0".repeat(687) + ";", RANGE, 11);
        reads("trips;wait " + "9".repeat(689), RANGE, 11);
        reads("trips;wait " + "0".repeat(688) + "1", SYNTAX, 700);
    }

    private void runsOfLettersAndDigits() {
        sentence("a word is a run of the letters a to z. Each run is as long as possible.");
        reads("tripsa;", SYNTAX, 0);
        reads("tripsz;", SYNTAX, 0);
        reads("tripstrips;", SYNTAX, 0);
        reads("trips;stockstock 1 1;", SYNTAX, 6);
        reads("trips;waits 1;", SYNTAX, 6);
        reads("trips;patienc 1;", SYNTAX, 6);
        reads("trips;" + STOCK + "journey 0 0*1:1 undoagain 1;", SYNTAX, 32);
        reads("trips;" + STOCK + "journey 0 0*1:1 andthen 0*1:1;", SYNTAX, 32);
        reads("trips;stock 11;", SYNTAX, 14);
        reads("trips;stock 1 11;", RANGE, 14);
        reads("trips;" + STOCK + "journey 00*1:1;", SYNTAX, 26);
        reads("trips;" + STOCK + "journey 0 0*1:1 0;", SYNTAX, 32);
        reads("trips;w ait 1;", SYNTAX, 6);
        reads("trips;wait 1 1;", SYNTAX, 13);
        reads("t rips;", SYNTAX, 0);
        reads("trips;Wait 1;", SYNTAX, 6);
        reads("trips;waiT 1;", SYNTAX, 6);
    }

    private void spaces() {
        sentence("Spaces (byte 32) may precede any token and may follow the last one; "
            + "a word and a number side by side need none between them.");
        int journeys = 2;
        for (String gap : new String[] {" ", "  ", "     "}) {
            readsWell(gap + String.join(gap, TOKENS) + gap, journeys);
        }
        String tight = String.join(" ", TOKENS).replaceAll("([0-9]) ([0-9])", "$1~$2").replace(" ", "").replace('~', ' ');
        UndoJourneys x = readsWell(tight, journeys);
        is("the same without spaces", Texts.loaded(String.join(" ", TOKENS)).checksum(), x.checksum());
        readsWell(of700("", "trips;"), 0);
        readsWell(of700("trips", ";"), 0);
        readsWell(of700("trips;", ""), 0);
    }

    private void otherBytes() {
        sentence("No other byte separates tokens.");
        for (int b = 0; b < 256; b++) {
            char c = (char) b;
            boolean isDigit = b >= 48 && b <= 57;
            boolean isLetter = b >= 97 && b <= 122;
            boolean isSpace = b == 32;
            reads("trips;wait" + c + "5;", isDigit || isSpace ? 0 : SYNTAX, isDigit || isSpace ? -1 : isLetter ? 6 : 10);
            reads("trips;wait 5" + c + ";", isDigit || isSpace ? 0 : SYNTAX, isDigit || isSpace ? -1 : b == ';' ? 13 : 12);
            reads(c + "trips;", isSpace ? 0 : SYNTAX, isSpace ? -1 : 0);
            reads("trips;" + c, isSpace ? 0 : SYNTAX, isSpace ? -1 : 6);
            reads("trips;stock 1" + c + "1;", isSpace ? 0 : SYNTAX, isSpace ? -1 : isDigit ? 15 : 13);
        }
    }

    private void optionalParts() {
        sentence("step      = number \"*\" number \":\" number [ \"undo\" number ] [ \"again\" number ]");
        String begin = "trips;" + STOCK + "journey 0 0*1:1";
        readsWell(begin + " undo 0;", 1);
        readsWell(begin + " again 0;", 1);
        readsWell(begin + " undo 0 again 0;", 1);
        reads(begin + " again 0 undo 0;", SYNTAX, begin.length() + 9);
        reads(begin + " undo 0 undo 0;", SYNTAX, begin.length() + 8);
        reads(begin + " again 0 again 0;", SYNTAX, begin.length() + 9);
        reads(begin + " undo;", SYNTAX, begin.length() + 5);
        reads(begin + " again;", SYNTAX, begin.length() + 6);
        sentence("setup     = \"trips\" \";\" { statement \";\" }");
        readsWell("trips;", 0);
        reads("trips;;", SYNTAX, 6);
        reads("trips;trips;", SYNTAX, 6);
        reads(";", SYNTAX, 0);
    }

    private void waitAndPatienceOnce() {
        sentence("wait is 5 and patience is 3 without their statements; each of these may occur once.");
        UndoJourneys x = readsWell("trips;" + STOCK, 0);
        is("wait", 5, x.state(4));
        is("patience", 3, x.state(5));
        is("wait with patience", 5, readsWell("trips;patience 1;", 0).state(4));
        is("patience with wait", 3, readsWell("trips;wait 1;", 0).state(5));
        sentence("a second wait or patience, at its first letter");
        reads("trips;wait 1;wait 1;", SYNTAX, 13);
        reads("trips;patience 1;patience 1;", SYNTAX, 17);
        reads("trips;wait 1;patience 1;" + STOCK + " wait 1;", SYNTAX, 35);
        reads("trips;patience 1;wait 1;" + STOCK + " patience 1;", SYNTAX, 35);
        reads("trips;wait 1;wait", SYNTAX, 13);
        reads("trips;wait 1;patience 2;wait 2;patience 2;", SYNTAX, 24);
        UndoJourneys y = Texts.loaded("trips;wait 9;patience 9;");
        is("once in each text", 0, Texts.load(y, "trips;wait 8;patience 8;"));
        is("the usual wait behind another one", 0, Texts.load(y, "trips;"));
        is("wait", 5, y.state(4));
        is("patience", 3, y.state(5));
    }

    private void textEndsTooEarly() {
        sentence("the end of the text, at its length, if the text ends too early");
        StringBuilder b = new StringBuilder();
        for (String token : TOKENS) {
            boolean isOver = token.equals(";");
            if (!isOver) {
                b.append(' ');
                // Each longer part of a word is another word, which is not allowed.
                for (int part = 1; part < token.length(); part++) {
                    reads(b + token.substring(0, part), SYNTAX, b.length());
                }
            }
            b.append(token);
            int journeys = isOver ? b.toString().split("journey", -1).length - 1 : SYNTAX;
            reads(b.toString(), journeys, isOver ? -1 : b.length());
            reads(b + "   ", journeys, isOver ? -1 : b.length() + 3);
        }
    }

    private void tokenNotAllowed() {
        sentence("SYNTAX_ERROR: a token or byte that the grammar does not allow here, at its first byte");
        for (String wrong : new String[] {"zz", "!", "Z", "\u00e9", "\t", "trips"}) {
            int offset = 0;
            for (int i = 0; i < TOKENS.length; i++) {
                if (!TOKENS[i].equals(wrong)) {
                    String[] spoilt = TOKENS.clone();
                    spoilt[i] = wrong;
                    reads(String.join(" ", spoilt), SYNTAX, offset);
                }
                offset += TOKENS[i].length() + 1;
            }
        }
        for (String sign : new String[] {"*", ":"}) {
            reads("trips" + sign, SYNTAX, 5);
            reads("trips;" + sign, SYNTAX, 6);
            reads("trips;" + STOCK + "journey" + sign, SYNTAX, 23);
        }
        reads("trips;" + STOCK + "journey 0 0:1", SYNTAX, 27);
        reads("trips;" + STOCK + "journey 0 0*1*1", SYNTAX, 29);
        reads("trips;" + STOCK + "journey 0 0;", SYNTAX, 27);
    }

    private void tooManyStocks() {
        sentence("TOO_MANY: a 7th stock or a 9th journey, at the first letter of its statement");
        is("six stocks", 6, readsWell("trips;" + STOCK.repeat(6), 0).state(1));
        reads("trips;" + STOCK.repeat(7), MANY, 66);
        reads("trips;" + STOCK.repeat(6) + ONE + "  " + STOCK, MANY, 84);
        reads("trips;" + STOCK.repeat(6) + "stock", MANY, 66);
        reads("trips;" + STOCK.repeat(6) + "stock 10000 0", MANY, 66);
        UndoJourneys x = new UndoJourneys();
        Texts.load(x, "trips;" + STOCK.repeat(7));
        is("six stocks in the next text", 0, Texts.load(x, "trips;" + STOCK.repeat(6)));
    }

    private void tooManyJourneys() {
        sentence("TOO_MANY: a 7th stock or a 9th journey, at the first letter of its statement");
        is("eight journeys", 8, readsWell("trips;" + STOCK + ONE.repeat(8), 8).state(2));
        reads("trips;" + STOCK + ONE.repeat(9), MANY, 144);
        reads("trips;" + STOCK + ONE.repeat(8) + STOCK + " " + ONE, MANY, 155);
        reads("trips;" + STOCK + ONE.repeat(8) + "journey", MANY, 144);
        reads("trips;" + STOCK + ONE.repeat(8) + "journey 1000 7*0:0", MANY, 144);
    }

    private void tooManyStages() {
        sentence("a 6th stage, at the word then");
        String five = "trips;" + STOCK + "journey 0 " + STEP + (" then " + STEP).repeat(4);
        is("five stages", 5, readsWell(five + ";", 1).journey(0, 2));
        reads(five + " then " + STEP + ";", MANY, five.length() + 1);
        reads(five + " then", MANY, five.length() + 1);
        reads(five + " and " + STEP + " then " + STEP, MANY, five.length() + 11);
        is("five stages again", 5, readsWell(five + ";" + journey(5, 1), 2).journey(1, 2));
    }

    private void tooManyStepsOfStage() {
        sentence("a 4th step of a stage, at the word and");
        String three = "trips;" + STOCK + "journey 0 " + STEP + (" and " + STEP).repeat(2);
        is("three steps", 3, readsWell(three + ";", 1).journey(0, 3));
        reads(three + " and " + STEP + ";", MANY, three.length() + 1);
        reads(three + " and", MANY, three.length() + 1);
        String six = three + " then " + STEP + (" and " + STEP).repeat(2);
        is("three and three steps", 6, readsWell(six + ";", 1).journey(0, 3));
        reads(six + " and " + STEP + ";", MANY, six.length() + 1);
        String two = "trips;" + STOCK + "journey 0 " + STEP + " and " + STEP;
        is("two, then three steps", 5, readsWell(two + " then " + STEP + (" and " + STEP).repeat(2) + ";", 1).journey(0, 3));
        is("three steps in the next journey", 3, readsWell(three + ";" + journey(1, 3), 2).journey(1, 3));
    }

    private void tooManySteps() {
        sentence("There are at most 40 steps in all journeys together.");
        String thirty = "trips;" + STOCK + journey(5, 3).repeat(2);
        String forty = thirty + journey(5, 2);
        is("forty steps", 40, readsWell(forty, 3).state(3));
        is("forty steps of eight journeys", 40, readsWell("trips;" + STOCK + journey(5, 1).repeat(8), 8).state(3));
        sentence("the 41st step of all, at its first digit");
        reads(forty + ONE, MANY, forty.length() + 10);
        reads(forty + "journey 0  000*1:1;", MANY, forty.length() + 11);
        String thirtyNine = thirty + journey(3, 3);
        is("39 steps", 39, readsWell(thirtyNine, 3).state(3));
        readsWell(thirtyNine + ONE, 4);
        reads(thirtyNine + "journey 0 0*1:1 then 0*1:1;", MANY, thirtyNine.length() + 21);
        reads(thirtyNine + "journey 0 0*1:1 and 0*1:1;", MANY, thirtyNine.length() + 20);
        reads(thirtyNine + "journey 0 0*1:1 and 0", MANY, thirtyNine.length() + 20);
    }

    private void smallestOffset() {
        sentence("The first error in the text is the one with the smallest offset.");
        String many = STOCK.repeat(7);
        reads("trips;wait 0 x", RANGE, 11);
        reads("trips;x wait 0;", SYNTAX, 6);
        reads("trips;" + many + "x", MANY, 66);
        reads("trips;x;" + many, SYNTAX, 6);
        reads("trips;" + many + "wait 0;", MANY, 66);
        reads("trips;wait 0;" + many, RANGE, 11);
        reads("trips;stock 10000 10;", RANGE, 12);
        reads("trips;wait 1;wait 0;", SYNTAX, 13);
        reads("trips;wait 0;wait 1;", RANGE, 11);
        reads("trips;" + STOCK + "journey 1000 0*0:0 undo 10 again 10 and and", RANGE, 24);
        reads("trips;" + STOCK + "journey 0 0*0:0 undo 10 again 10 and and", RANGE, 28);
        reads("trips;" + STOCK + "journey 0 0*1:0 undo 10 again 10 and and", RANGE, 30);
        reads("trips;" + STOCK + "journey 0 0*1:1 undo 10 again 10 and and", RANGE, 37);
        reads("trips;" + STOCK + "journey 0 0*1:1 undo 1 again 10 and and", RANGE, 45);
        reads("trips;" + STOCK + "journey 0 0*1:1 undo 1 again 1 and and", SYNTAX, 51);
    }

    private void sameOffset() {
        sentence("If several kinds of error have the same offset, the first one in this list counts:");
        String forty = "trips;" + STOCK + journey(5, 3).repeat(2) + journey(5, 2);
        int step = forty.length() + 10;
        reads(forty + "journey 0 x", SYNTAX, step);
        reads(forty + "journey 0 ", SYNTAX, step);
        reads(forty + "journey 0 1*1:1;", RANGE, step);
        reads(forty + "journey 0 99999999999*1:1;", RANGE, step);
        reads(forty + "journey 0 0*1:1;", MANY, step);
        reads(forty + "journey 1000 0*1:1;", RANGE, forty.length() + 8);
    }
}
