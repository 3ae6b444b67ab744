import java.util.NoSuchElementException;
import java.util.function.Supplier;

/** Promises 48 to 51: a test for each sentence that names a boundary case. */
public final class CommandsBoundaryTest {
    private static final Checks CHECKS = new Checks();
    private static final String MALFORMED = "IllegalArgumentException";
    private static final String FAILED = "UnsupportedOperationException";
    private static final Twins FRESH = new Twins(CHECKS, Examples::fresh);
    private static final Twins READY = new Twins(CHECKS, Examples::ready);
    private static final Twins FULL_INPUT = new Twins(CHECKS, Examples::fullInput);

    public static void main(String[] arguments) throws IllegalAccessException {
        CHECKS.runPromises(CommandsBoundaryTest.class);
    }

    /** Makes a catalogue and executes a text there. */
    private static MosaicCatalogue executed(Supplier<MosaicCatalogue> recipe, String text) {
        MosaicCatalogue x = recipe.get();
        Checks.execute(x, text);
        return x;
    }

    /** A text that fails at a command, from 0 to 5; the ones before it would change nothing that can be asked. */
    private static String plainFailure(int index) {
        return "turn 0*0;".repeat(index) + "take 99";
    }

    /** The text fails at this command of it, and all else is as if none of its commands had been tried. */
    private static void fails(Supplier<MosaicCatalogue> recipe, String text, int index) {
        MosaicCatalogue x = recipe.get();
        CHECKS.equal(text, Checks.execute(x, text), FAILED);
        CHECKS.equal(text + ": failedCommand", Checks.outcome(x::failedCommand), index);
        Twins plain = new Twins(CHECKS, () -> executed(recipe, plainFailure(index)));
        plain.same(text, () -> executed(recipe, text));
    }

    /** The text is malformed at this position, and all else is as if another text had been. */
    private static void isRefused(Supplier<MosaicCatalogue> recipe, String text, int position) {
        MosaicCatalogue x = recipe.get();
        CHECKS.equal("\"" + text + "\"", Checks.execute(x, text), MALFORMED);
        CHECKS.equal("\"" + text + "\" position", Checks.outcome(x::errorPosition), position);
        String plain = "turn 0*0;".repeat(7).substring(0, position) + (position < 60 ? "%" : "");
        Twins other = new Twins(CHECKS, () -> executed(recipe, plain));
        other.same("\"" + text + "\"", () -> executed(recipe, text));
    }

    private static void malformed(String text, int position) {
        MosaicCatalogue x = new MosaicCatalogue();
        CHECKS.equal("\"" + text + "\"", Checks.execute(x, text), MALFORMED);
        CHECKS.equal("\"" + text + "\" position", Checks.outcome(x::errorPosition), position);
    }

    private static void promise48From1To60Characters() {
        MosaicCatalogue x = new MosaicCatalogue();
        for (int length = 1; length <= 60; length++) {
            CHECKS.equal("length", x.feed(';'), length);
        }
    }

    private static void promise48TheInputBufferHolds60Characters() {
        for (char character : new char[] {'a', ';', 0, (char) 65535}) {
            FULL_INPUT.refuses("feed " + (int) character, IllegalStateException.class, x -> x.feed(character));
        }
    }

    private static void promise48AnyCharacter() {
        MosaicCatalogue x = new MosaicCatalogue();
        for (int code = 0; code <= 65535; code++) {
            if (code % 60 == 0) {
                x = new MosaicCatalogue();
            }
            CHECKS.equal("character " + code, x.feed((char) code), code % 60 + 1);
        }
    }

    private static void promise48TheRefusedCharacterIsNotAppended() {
        MosaicCatalogue x = sixtyCharacters();
        CHECKS.equal("full", Checks.outcome(() -> x.feed('%')), "IllegalStateException");
        CHECKS.equal("the sixty alone", x.execute(), 6);
    }

    private static void promise48RoomAgainAfterExecute() {
        MosaicCatalogue x = sixtyCharacters();
        x.execute();
        CHECKS.equal("after a success", x.feed('t'), 1);
        MosaicCatalogue y = Examples.fullInput();
        Checks.outcome(y::execute);
        for (int length = 1; length <= 60; length++) {
            CHECKS.equal("after a malformed text", y.feed('t'), length);
        }
        MosaicCatalogue z = new MosaicCatalogue();
        Checks.execute(z, "fill;fill;fill;fill;fill;fill;fill;fill;fill;fill;take 9");
        CHECKS.equal("after a failed command", z.feed('t'), 1);
    }

    /** 60 characters that are well-formed: five new fragments and an exchange. */
    private static MosaicCatalogue sixtyCharacters() {
        MosaicCatalogue x = Examples.checkered(12);
        x.place(10, 0, 0);
        x.place(11, 7, 7);
        Checks.feed(x, "new a0000;new b1111;new c9999;new daaaa;new ffff0;swap 10&11");
        return x;
    }

    private static void promise49From1To12Commands() {
        for (int commands = 1; commands <= 12; commands++) {
            String text = "fill;".repeat(commands).substring(0, 5 * commands - 1);
            CHECKS.equal(text, Checks.execute(new MosaicCatalogue(), text), commands);
        }
    }

    private static void promise49SixtyCharacters() {
        MosaicCatalogue x = sixtyCharacters();
        CHECKS.equal("it is full", Checks.outcome(() -> x.feed(';')), "IllegalStateException");
        CHECKS.equal("all of it", x.execute(), 6);
        CHECKS.equal("17 fragments", x.fragmentCount(), 17);
        CHECKS.equal("10 was moved", x.cell(10), 63);
        CHECKS.equal("11 was moved", x.cell(11), 0);
        CHECKS.equal("the last new one", x.edge(16, 3), 0);
        CHECKS.equal("its north", x.edge(16, 0), 15);
    }

    private static void promise49TheEmptyText() {
        isRefused(Examples::fresh, "", 0);
        isRefused(Examples::ready, "", 0);
    }

    private static void promise49ColoursAndDigitsOfNew() {
        MosaicCatalogue x = new MosaicCatalogue();
        String[] fragments = {"a0000", "f9999", "baaaa", "effff", "c0f9a", "d1234", "a5678"};
        for (int id = 0; id < fragments.length; id++) {
            CHECKS.equal("new " + fragments[id], Checks.execute(x, "new " + fragments[id]), 1);
            x.writeFragment(id);
            CHECKS.equal("fragment " + id, Checks.output(x), fragments[id]);
        }
    }

    private static void promise49NumbersOfOneAndTwoDigits() {
        MosaicCatalogue x = Examples.fullTray();
        CHECKS.equal("put", Checks.execute(x, "put 0@00;put 01@07;put 9@70;put 10@77;put 19@44"), 5);
        CHECKS.equal("0", x.cell(0), 0);
        CHECKS.equal("1", x.cell(1), 7);
        CHECKS.equal("9", x.cell(9), 56);
        CHECKS.equal("10", x.cell(10), 63);
        CHECKS.equal("19", x.cell(19), 36);
        CHECKS.equal("turn", Checks.execute(x, "turn 00*3;turn 9*1;turn 19*2"), 3);
        CHECKS.equal("turn of 0", x.turn(0), 3);
        CHECKS.equal("turn of 9", x.turn(9), 1);
        CHECKS.equal("turn of 19", x.turn(19), 2);
        CHECKS.equal("swap", Checks.execute(x, "swap 0&19;swap 01&9;swap 10&00"), 3);
        CHECKS.equal("0 after two", x.cell(0), 63);
        CHECKS.equal("10 after one", x.cell(10), 36);
        CHECKS.equal("take and drop", Checks.execute(x, "take 0;take 19;take 01;drop 00;drop 19;drop 2;drop 18"), 7);
        CHECKS.equal("sixteen are left", x.fragmentCount(), 16);
    }

    private static void promise49TheId99() {
        MosaicCatalogue x = Examples.checkered(1);
        for (int id = 1; id <= 99; id++) {
            x.addFragment('b', 0, 0, 0, 0);
            x.removeFragment(id - 1);
        }
        CHECKS.equal("put", Checks.execute(x, "put 99@77;turn 99*3"), 2);
        CHECKS.equal("its cell", x.cell(99), 63);
        CHECKS.equal("take and drop", Checks.execute(x, "take 99;drop 99"), 2);
        CHECKS.equal("none is left", x.fragmentCount(), 0);
        CHECKS.equal("the next", x.addFragment('a', 0, 0, 0, 0), 100);
    }

    private static void promise49CellsFrom0To7() {
        for (int cell = 0; cell < 64; cell++) {
            MosaicCatalogue x = Examples.checkered(1);
            CHECKS.equal("put 0@" + cell / 8 + cell % 8, Checks.execute(x, "put 0@" + cell / 8 + cell % 8), 1);
            CHECKS.equal("cell", x.cell(0), cell);
        }
    }

    private static void promise49TurnsFrom0To3() {
        MosaicCatalogue x = Examples.checkered(1);
        for (int turn = 3; turn >= 0; turn--) {
            CHECKS.equal("turn 0*" + turn, Checks.execute(x, "turn 0*" + turn), 1);
            CHECKS.equal("turn", x.turn(0), turn);
        }
    }

    private static void promise49NewWithTwentyFragments() {
        fails(Examples::fullTray, "new a0000", 0);
        fails(Examples::allPlaced, "new f1234", 0);
        fails(() -> Examples.checkered(19), "new a0000;new a0000", 1);
        fails(() -> Examples.checkered(18), "new a0000;new a0000;new a0000", 2);
        CHECKS.equal("the twentieth", Checks.execute(Examples.checkered(19), "new a0000"), 1);
        CHECKS.equal("a drop makes room", Checks.execute(Examples.fullTray(), "drop 19;new a0000"), 2);
    }

    private static void promise49PutThrows() {
        fails(Examples::ready, "put 5@00", 0);
        fails(Examples::ready, "put 7@00", 0);
        fails(Examples::ready, "put 99@00", 0);
        fails(Examples::ready, "put 2@80", 0);
        fails(Examples::ready, "put 2@90", 0);
        fails(Examples::ready, "put 2@08", 0);
        fails(Examples::ready, "put 2@09", 0);
        fails(Examples::ready, "put 2@33", 0);
        fails(Examples::ready, "put 2@77", 0);
        fails(Examples::ready, "put 0@00", 0);
    }

    private static void promise49TakeThrows() {
        fails(Examples::ready, "take 5", 0);
        fails(Examples::ready, "take 7", 0);
        fails(Examples::ready, "take 99", 0);
        fails(Examples::ready, "take 2", 0);
        fails(Examples::fresh, "take 0", 0);
    }

    private static void promise49TurnThrows() {
        fails(Examples::ready, "turn 7*0", 0);
        fails(Examples::ready, "turn 99*3", 0);
        fails(Examples::ready, "turn 0*4", 0);
        fails(Examples::ready, "turn 2*9", 0);
    }

    private static void promise49SwapThrows() {
        fails(Examples::ready, "swap 7&0", 0);
        fails(Examples::ready, "swap 0&7", 0);
        fails(Examples::ready, "swap 0&0", 0);
        fails(Examples::ready, "swap 0&00", 0);
        fails(Examples::ready, "swap 0&2", 0);
        fails(Examples::ready, "swap 2&0", 0);
        fails(Examples::ready, "swap 2&6", 0);
    }

    private static void promise49DropThrows() {
        fails(Examples::ready, "drop 5", 0);
        fails(Examples::ready, "drop 7", 0);
        fails(Examples::ready, "drop 99", 0);
        fails(Examples::ready, "drop 4", 0);
    }

    private static void promise49EitherAllCommandsOrNone() {
        fails(Examples::ready, "take 0;put 0@00;turn 0*3;swap 0&4;drop 6;drop 6", 5);
        fails(Examples::ready, "new b0000;put 7@00;put 8@01", 2);
        fails(Examples::ready, "fill;take 2;put 6@00;take 2", 3);
        fails(Examples::ready, "drop 2;drop 6;fill;take 2", 3);
        fails(Examples::ready, "turn 2*2;turn 2*3;turn 2*4", 2);
        fails(Examples::fullTray, "drop 0;new f0f0f;put 20@00;fill;new a0000", 4);
    }

    private static void promise49AMalformedTextExecutesNoCommand() {
        isRefused(Examples::ready, "take 0;drop 2;new f1234;fill;take", 33);
        isRefused(Examples::ready, "take 0;", 7);
        isRefused(Examples::ready, "drop 2;%", 7);
        isRefused(Examples::fullTray, "drop 0;drop 1;drop 100", 21);
        isRefused(Examples::ready, "fill;fill;fill;fill;fill;fill;fill;fill;fill;fill;fill;fill;", 60);
    }

    private static void promise49TheInputIsEmptyAfterwards() {
        String[] texts = {"fill", "take 0", "", "%", "fill;"};
        for (String text : texts) {
            MosaicCatalogue x = new MosaicCatalogue();
            Checks.execute(x, text);
            CHECKS.equal("nothing is left of " + text, Checks.outcome(x::execute), MALFORMED);
            CHECKS.equal("position after " + text, x.errorPosition(), 0);
            CHECKS.equal("length after " + text, x.feed('f'), 1);
        }
    }

    private static void promise49OneChangeForAllCommands() {
        Twins before = new Twins(CHECKS, () -> Examples.checkered(3));
        before.same("undone", () -> {
            MosaicCatalogue x = executed(() -> Examples.checkered(3), "put 0@00;new a1234;fill;turn 2*2;drop 3");
            x.undo();
            return x;
        });
        MosaicCatalogue y = executed(() -> Examples.checkered(3), "put 0@00;new a1234;fill;turn 2*2;drop 3");
        CHECKS.equal("one more", y.undoCount(), 4);
    }

    private static void promise49LeavesErrorPositionAndFailedCommandWhenItSucceeds() {
        MosaicCatalogue x = Examples.ready();
        CHECKS.equal("a success", Checks.execute(x, "take 0;put 0@00"), 2);
        CHECKS.equal("error position", x.errorPosition(), 5);
        CHECKS.equal("failed command", x.failedCommand(), 1);
    }

    private static void promise50NoneWasKept() {
        FRESH.refuses("a new object", NoSuchElementException.class, x -> x.errorPosition());
        Twins succeeded = new Twins(CHECKS, () -> executed(Examples::fresh, "fill"));
        succeeded.refuses("after a success", NoSuchElementException.class, x -> x.errorPosition());
        Twins failed = new Twins(CHECKS, () -> executed(Examples::fresh, "take 0"));
        failed.refuses("after a failed command", NoSuchElementException.class, x -> x.errorPosition());
    }

    private static void promise50From0To60() {
        String text = "fill;fill;fill;fill;fill;fill;fill;fill;fill;fill;fill;fill;";
        for (int position = 0; position < 60; position++) {
            malformed(text.substring(0, position) + "%", position);
            malformed(text.substring(0, position) + "%" + "x".repeat(59 - position), position);
        }
        malformed(text, 60);
    }

    private static void promise50TheTextEndsTooEarly() {
        String[] commands = {"new a0f9b", "put 1@07", "take 1", "turn 1*3", "swap 1&2", "fill", "drop 1"};
        for (String command : commands) {
            for (int length = 0; length < command.length(); length++) {
                malformed(command.substring(0, length), length);
                malformed("fill;" + command.substring(0, length), 5 + length);
            }
            malformed(command + ";", command.length() + 1);
        }
        malformed("put 12", 6);
        malformed("put 12@", 7);
        malformed("put 12@3", 8);
        malformed("turn 12", 7);
        malformed("turn 12*", 8);
        malformed("swap 12", 7);
        malformed("swap 12&", 8);
    }

    private static void promise50NumbersHaveOneOrTwoDigits() {
        malformed("take 100", 7);
        malformed("take 000", 7);
        malformed("drop 123", 7);
        malformed("put 123@00", 6);
        malformed("turn 001*0", 7);
        malformed("swap 001&0", 7);
        malformed("swap 0&001", 9);
        malformed("take ;", 5);
        malformed("drop ;", 5);
        malformed("put @00", 4);
        malformed("turn *0", 5);
        malformed("swap &0", 5);
        malformed("swap 0&;", 7);
    }

    private static void promise50OneDigitForRowColumnAndTurn() {
        malformed("put 0@000", 8);
        malformed("put 0@0;", 7);
        malformed("put 0@;", 6);
        malformed("put 0@a0", 6);
        malformed("put 0@0a", 7);
        malformed("turn 0*;", 7);
        malformed("turn 0*00", 8);
        malformed("turn 0*a", 7);
    }

    /** The characters just outside 0 to 9 and a to f, and others that would wrap around to one of these. */
    private static void promise50DigitsFrom0To9AndAToF() {
        char[] noDigits = {'/', ':', '`', 'g', 'A', 'F', '-', '+', ' ', 0, (char) ('0' + 256), (char) ('9' + 65280),
            (char) 0x660, (char) 0xFF10};
        for (char sign : noDigits) {
            malformed("new a" + sign + "000", 5);
            malformed("new a0" + sign + "00", 6);
            malformed("new a00" + sign + "0", 7);
            malformed("new a000" + sign, 8);
            malformed("take " + sign, 5);
            malformed("take 0" + sign, 6);
        }
        for (char sign = 'a'; sign <= 'f'; sign++) {
            malformed("take " + sign, 5);
            malformed("take 1" + sign, 6);
            malformed("turn 1*" + sign, 7);
        }
    }

    private static void promise50ColoursFromAToF() {
        for (char colour : Examples.NO_COLOURS) {
            malformed("new " + colour + "0000", 4);
        }
        CHECKS.equal("a is a colour and a digit", Checks.execute(new MosaicCatalogue(), "new aaaaa"), 1);
        malformed("new aaaaaa", 9);
        malformed("new a0000a", 9);
    }

    private static void promise50KeywordsLetterByLetter() {
        malformed("nex", 2);
        malformed("nww", 1);
        malformed("pup", 2);
        malformed("tb", 1);
        malformed("taken", 4);
        malformed("talk", 2);
        malformed("turm", 3);
        malformed("tuke", 2);
        malformed("tarn", 2);
        malformed("swat", 3);
        malformed("fikl", 2);
        malformed("filk", 3);
        malformed("drip", 2);
        malformed("dump", 1);
        malformed("NEW a0000", 0);
        malformed("Fill", 0);
        malformed("filL", 3);
        malformed("new\ta0000", 3);
        malformed("new  a0000", 4);
        malformed("take0", 4);
        malformed("fill ", 4);
    }

    private static void promise50OneOrMoreCommandsSeparatedBySemicolons() {
        malformed(";", 0);
        malformed(";fill", 0);
        malformed("fill;", 5);
        malformed("fill;;fill", 5);
        malformed("fill,fill", 4);
        malformed("fillfill", 4);
        malformed("fill fill", 4);
        malformed("fill; fill", 5);
        malformed("take 0take 0", 6);
        malformed("new a0000new a0000", 9);
    }

    /** Every character at every position of well-formed texts, with the document's form as a regular expression. */
    private static void promise50EveryCharacterAtEveryPosition() {
        String[] texts = {"new a0f9b;put 12@07;take 3", "turn 1*3;swap 12&3;fill;drop 45", "swap 1&23", "put 4@56"};
        for (String text : texts) {
            for (int position = 0; position <= text.length(); position++) {
                for (int code = 0; code < 512; code++) {
                    String rest = position < text.length() ? text.substring(position + 1) : "";
                    checkText(text.substring(0, position) + (char) code + rest);
                }
            }
        }
    }

    private static void checkText(String text) {
        MosaicCatalogue x = new MosaicCatalogue();
        Object outcome = Checks.execute(x, text);
        if (Model.isWellFormed(text)) {
            CHECKS.equal("well-formed " + text, MALFORMED.equals(outcome), false);
            CHECKS.equal("no position for " + text, Checks.outcome(x::errorPosition), "NoSuchElementException");
        } else {
            CHECKS.equal("malformed " + text, outcome, MALFORMED);
            CHECKS.equal("position in " + text, Checks.outcome(x::errorPosition), Model.errorPositionOf(text));
        }
    }

    private static void promise50KeptLast() {
        MosaicCatalogue x = new MosaicCatalogue();
        Checks.execute(x, "fill;fill;%");
        CHECKS.equal("the first", x.errorPosition(), 10);
        Checks.execute(x, "%");
        CHECKS.equal("the later one", x.errorPosition(), 0);
        Checks.execute(x, "fill");
        CHECKS.equal("a success keeps none", x.errorPosition(), 0);
        Checks.execute(x, "take 0");
        CHECKS.equal("a failed command keeps none", x.errorPosition(), 0);
        Checks.execute(x, "fil");
        CHECKS.equal("the last one", x.errorPosition(), 3);
    }

    private static void promise50UndoAndSavingLeaveIt() {
        MosaicCatalogue x = Examples.ready();
        x.undo();
        CHECKS.equal("after undo", x.errorPosition(), 5);
        x.save();
        CHECKS.equal("after save", x.errorPosition(), 5);
        Checks.execute(x, "fil");
        x.restore();
        CHECKS.equal("after restore", x.errorPosition(), 3);
        MosaicCatalogue y = new MosaicCatalogue();
        y.save();
        y.fill();
        Checks.execute(y, "");
        y.undo();
        y.restore();
        CHECKS.equal("0 stays too", y.errorPosition(), 0);
    }

    private static void promise51NoneWasKept() {
        FRESH.refuses("a new object", NoSuchElementException.class, x -> x.failedCommand());
        Twins succeeded = new Twins(CHECKS, () -> executed(Examples::fresh, "fill"));
        succeeded.refuses("after a success", NoSuchElementException.class, x -> x.failedCommand());
        Twins malformed = new Twins(CHECKS, () -> executed(Examples::fresh, "take"));
        malformed.refuses("after a malformed text", NoSuchElementException.class, x -> x.failedCommand());
    }

    /** No more than ten commands fit into the buffer before one that can fail. */
    private static void promise51From0To10() {
        for (int index = 0; index <= 10; index++) {
            MosaicCatalogue x = new MosaicCatalogue();
            CHECKS.equal("fails", Checks.execute(x, "fill;".repeat(index) + "take 0"), FAILED);
            CHECKS.equal("the failed command", x.failedCommand(), index);
        }
    }

    private static void promise51TheFirstThatFails() {
        MosaicCatalogue x = Examples.checkered(2);
        CHECKS.equal("all fail", Checks.execute(x, "take 0;take 0;take 0"), FAILED);
        CHECKS.equal("the first", x.failedCommand(), 0);
        CHECKS.equal("two of four", Checks.execute(x, "fill;drop 9;fill;drop 9"), FAILED);
        CHECKS.equal("the former", x.failedCommand(), 1);
    }

    private static void promise51KeptLast() {
        MosaicCatalogue x = new MosaicCatalogue();
        Checks.execute(x, "fill;fill;take 0");
        CHECKS.equal("the first", x.failedCommand(), 2);
        Checks.execute(x, "take 0");
        CHECKS.equal("the later one", x.failedCommand(), 0);
        Checks.execute(x, "fill");
        CHECKS.equal("a success keeps none", x.failedCommand(), 0);
        Checks.execute(x, "fill;take");
        CHECKS.equal("a malformed text keeps none", x.failedCommand(), 0);
        Checks.execute(x, "fill;take 0");
        CHECKS.equal("the last one", x.failedCommand(), 1);
    }

    private static void promise51UndoAndSavingLeaveIt() {
        MosaicCatalogue x = Examples.ready();
        x.undo();
        CHECKS.equal("after undo", x.failedCommand(), 1);
        x.save();
        CHECKS.equal("after save", x.failedCommand(), 1);
        Checks.execute(x, "take 99");
        x.restore();
        CHECKS.equal("after restore", x.failedCommand(), 0);
    }

    private static void promise51AnsweringChangesNothing() {
        READY.answers("error position", 5, x -> x.errorPosition());
        READY.answers("failed command", 1, x -> x.failedCommand());
    }
}
