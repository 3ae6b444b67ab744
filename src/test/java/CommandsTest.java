import java.util.NoSuchElementException;

/** Promises 48 to 51: the input buffer and the commands. */
public final class CommandsTest {
    private static final Checks CHECKS = new Checks();
    private static final String MALFORMED = "IllegalArgumentException";
    private static final String FAILED = "UnsupportedOperationException";

    public static void main(String[] arguments) {
        promise48Feed();
        promise49EachCommand();
        promise49SeveralCommands();
        promise49AllOrNone();
        promise49OneChange();
        promise49EmptiesTheBuffer();
        promise50Positions();
        promise50Keywords();
        promise50EveryCharacter();
        promise50IsKept();
        promise51FailedCommand();
        promise51EachCommand();
        CHECKS.finish("CommandsTest");
    }

    private static MosaicCatalogue example() {
        MosaicCatalogue x = new MosaicCatalogue();
        x.addFragment('a', 1, 1, 1, 1);
        x.addFragment('b', 14, 0, 0, 0);
        x.addFragment('c', 2, 2, 2, 2);
        x.place(0, 3, 3);
        return x;
    }

    private static void promise48Feed() {
        MosaicCatalogue x = new MosaicCatalogue();
        for (int length = 1; length <= 60; length++) {
            char character = (char) (length * 1109);
            CHECKS.equal("length " + length, x.feed(character), length);
        }
        CHECKS.fails("the 61st", IllegalStateException.class, x, () -> x.feed('a'));
        CHECKS.equal("malformed", Checks.outcome(x::execute), MALFORMED);
        CHECKS.equal("empty again", x.feed((char) 65535), 1);
        MosaicCatalogue y = new MosaicCatalogue();
        Checks.feed(y, "fill;fill;fill;fill;fill;fill;fill;fill;fill;fill;new a0000");
        CHECKS.equal("59 characters", y.feed(';'), 60);
        CHECKS.fails("no room", IllegalStateException.class, y, () -> y.feed('x'));
        CHECKS.equal("the refused one is not there", Checks.outcome(y::execute), MALFORMED);
        CHECKS.equal("ends too early", y.errorPosition(), 60);
    }

    private static void promise49EachCommand() {
        MosaicCatalogue x = example();
        CHECKS.equal("new", Checks.execute(x, "new f0a9f"), 1);
        x.writeFragment(3);
        CHECKS.equal("the new one", Checks.output(x), "f0a9f");
        CHECKS.equal("put", Checks.execute(x, "put 3@70"), 1);
        CHECKS.equal("by row and column", x.cell(3), 56);
        CHECKS.equal("turn", Checks.execute(x, "turn 3*2"), 1);
        CHECKS.equal("its turn", x.turn(3), 2);
        CHECKS.equal("swap", Checks.execute(x, "swap 3&0"), 1);
        CHECKS.equal("the one", x.cell(3), 27);
        CHECKS.equal("the other", x.cell(0), 56);
        CHECKS.equal("take", Checks.execute(x, "take 3"), 1);
        CHECKS.equal("it is in the tray", x.isPlaced(3), false);
        CHECKS.equal("drop", Checks.execute(x, "drop 3"), 1);
        CHECKS.equal("it is gone", x.exists(3), false);
        CHECKS.equal("fill", Checks.execute(x, "fill"), 1);
        CHECKS.equal("it filled", x.isPlaced(1), true);
    }

    private static void promise49SeveralCommands() {
        MosaicCatalogue x = new MosaicCatalogue();
        CHECKS.equal("three", Checks.execute(x, "new a1234;put 0@34;turn 0*1"), 3);
        CHECKS.equal("placed", x.cell(0), 28);
        CHECKS.equal("turned", x.turn(0), 1);
        CHECKS.equal("twelve", Checks.execute(x, "fill;fill;fill;fill;fill;fill;fill;fill;fill;fill;fill;fill"), 12);
        CHECKS.equal("59 characters", Checks.execute(x, "new b0000;new b0000;new b0000;new b0000;new b0000;new b0000"),
                6);
        CHECKS.equal("seven", x.fragmentCount(), 7);
        CHECKS.equal("numbers of two digits", Checks.execute(x, "put 01@00;put 02@01;swap 02&01;drop 03"), 4);
        CHECKS.equal("swapped", x.fragmentAt(0, 0), 2);
        CHECKS.equal("swapped too", x.fragmentAt(0, 1), 1);
        for (int id = 7; id < 12; id++) {
            x.addFragment('a', 0, 0, 0, 0);
        }
        CHECKS.equal("ten and eleven", Checks.execute(x, "put 10@77;take 10;turn 11*3;put 11@76;swap 11&1"), 5);
        CHECKS.equal("eleven", x.fragmentAt(0, 1), 11);
        CHECKS.equal("60 characters", Checks.execute(x, "take 1;take 2;take 11;turn 1*1;turn 2*2;turn 3*3;fill;fill"),
                FAILED);
        CHECKS.equal("there is no 3", x.failedCommand(), 5);
    }

    private static void promise49AllOrNone() {
        MosaicCatalogue x = example();
        x.writeRow(3);
        String before = Checks.picture(x);
        CHECKS.equal("the last fails", Checks.execute(x, "new d0123;take 0;turn 1*3;put 2@00;swap 0&2"), FAILED);
        CHECKS.equal("only the failed command is new", Checks.picture(x), before.replaceAll("failed.*", "failed 4"));
        CHECKS.equal("no id is taken", x.addFragment('a', 0, 0, 0, 0), 3);
        CHECKS.equal("with a fill and a drop", Checks.execute(x, "drop 3;fill;drop 9"), FAILED);
        CHECKS.equal("the dropped one is there", x.exists(3), true);
        CHECKS.equal("the grid", x.placedMask(), 1L << 27);
        before = Checks.picture(x);
        CHECKS.equal("malformed at the end", Checks.execute(x, "new d0123;take 0;fill?"), MALFORMED);
        CHECKS.equal("nothing was done", Checks.picture(x).replaceAll("error.*", ""),
                before.replaceAll("error.*", ""));
        CHECKS.equal("it stays so", x.addFragment('a', 0, 0, 0, 0), 4);
    }

    private static void promise49OneChange() {
        MosaicCatalogue x = example();
        CHECKS.equal("before", x.undoCount(), 4);
        Checks.execute(x, "new d0123;put 3@00;take 0;fill");
        CHECKS.equal("one change", x.undoCount(), 5);
        CHECKS.equal("undone at once", x.undo(), 4);
        CHECKS.equal("no new one", x.exists(3), false);
        CHECKS.equal("0 is back", x.cell(0), 27);
        for (int step = 0; step < 8; step++) {
            x.setTurn(2, step % 4);
        }
        x.setTurn(2, 1);
        String before = Checks.picture(x).replaceAll("failed.*", "");
        Checks.execute(x, "turn 2*2;turn 9*0");
        CHECKS.equal("a failed one is no change", Checks.picture(x).replaceAll("failed.*", ""), before);
        for (int step = 7; step >= 0; step--) {
            CHECKS.equal("undo " + step, x.undo(), step);
        }
        CHECKS.equal("the oldest of 8 is kept", x.turn(2), 0);
        CHECKS.equal("a fill of none", Checks.execute(x, "take 0;fill"), 2);
        CHECKS.equal("a change", x.undoCount(), 1);
    }

    private static void promise49EmptiesTheBuffer() {
        MosaicCatalogue x = example();
        Checks.execute(x, "fill");
        CHECKS.equal("after a success", x.feed('z'), 1);
        Checks.outcome(x::execute);
        CHECKS.equal("after a malformed text", x.feed('t'), 1);
        Checks.execute(x, "ake 9");
        CHECKS.equal("after a failed command", x.feed('f'), 1);
        x.undo();
        x.save();
        x.restore();
        CHECKS.equal("undo and saving leave the buffer", x.feed('i'), 2);
        CHECKS.equal("it goes on", Checks.execute(x, "ll"), 1);
        CHECKS.equal("nothing is left", Checks.outcome(x::execute), MALFORMED);
        Checks.execute(x, "fi");
        CHECKS.equal("a shorter text ends where it ends", x.errorPosition(), 2);
        Checks.execute(x, "turn 0*1;fill");
        CHECKS.equal("one command", Checks.execute(x, "turn 0*2"), 1);
        Checks.execute(x, "take 12");
        CHECKS.equal("one digit", Checks.execute(x, "take 1"), 1);
    }

    private static void malformed(String text, int position) {
        MosaicCatalogue x = example();
        CHECKS.equal("\"" + text + "\"", Checks.execute(x, text), MALFORMED);
        CHECKS.equal("\"" + text + "\" position", x.errorPosition(), position);
    }

    private static void promise50Positions() {
        malformed("", 0);
        malformed("fill;fill;fill;fill;fill;fill;fill;fill;fill;fill;fill;fill;", 60);
        malformed(";", 0);
        malformed(" fill", 0);
        malformed("fill ", 4);
        malformed("fill;", 5);
        malformed("fill;;fill", 5);
        malformed("fill; fill", 5);
        malformed("fillfill", 4);
        malformed("new a000", 8);
        malformed("new a00000", 9);
        malformed("new a000g", 8);
        malformed("new a00A0", 7);
        malformed("new g0000", 4);
        malformed("new 0", 4);
        malformed("new  a0000", 4);
        malformed("new a 0000", 5);
        malformed("put 1", 5);
        malformed("put 12", 6);
        malformed("put 123@00", 6);
        malformed("put @00", 4);
        malformed("put -1@00", 4);
        malformed("put 1&00", 5);
        malformed("put 1@", 6);
        malformed("put 1@0", 7);
        malformed("put 1@0a", 7);
        malformed("put 1@000", 8);
        malformed("take", 4);
        malformed("take ", 5);
        malformed("take a", 5);
        malformed("take 1a", 6);
        malformed("take 123", 7);
        malformed("take 1;", 7);
        malformed("turn 1", 6);
        malformed("turn 1@2", 6);
        malformed("turn 1*", 7);
        malformed("turn 1*x", 7);
        malformed("turn 1*22", 8);
        malformed("swap 1*2", 6);
        malformed("swap 1&", 7);
        malformed("swap 11&x", 8);
        malformed("swap 1&222", 9);
        malformed("drop", 4);
        malformed("drop 0.", 6);
        malformed("take 0;take 0;take x", 19);
    }

    private static void promise50Keywords() {
        malformed("n", 1);
        malformed("new", 3);
        malformed("nex", 2);
        malformed("New a0000", 0);
        malformed("p", 1);
        malformed("pat", 1);
        malformed("put", 3);
        malformed("put1@00", 3);
        malformed("t", 1);
        malformed("tx", 1);
        malformed("ta", 2);
        malformed("tarn 1*1", 2);
        malformed("tuke 1", 2);
        malformed("take1", 4);
        malformed("swab", 3);
        malformed("s", 1);
        malformed("fi", 2);
        malformed("fi;", 2);
        malformed("fILL", 1);
        malformed("dr0p", 2);
        malformed("x", 0);
        malformed("fill;t", 6);
        malformed("fill;turx", 8);
        malformed("" + (char) ('f' + 256), 0);
        malformed("take " + (char) ('0' + 256), 5);
    }

    /** Each place of a well-formed text with a character that no text has. */
    private static void promise50EveryCharacter() {
        String text = "new a0f9b;put 0@77;take 10;turn 2*3;swap 1&02;drop 3;fill";
        for (int index = 0; index <= text.length(); index++) {
            malformed(text.substring(0, index) + "%", index);
        }
        String begin = "new a0f9b";
        for (int length = 0; length < begin.length(); length++) {
            malformed(begin.substring(0, length), length);
        }
    }

    private static void promise50IsKept() {
        MosaicCatalogue x = example();
        CHECKS.fails("none was kept", NoSuchElementException.class, x, () -> x.errorPosition());
        Checks.execute(x, "take 9");
        CHECKS.fails("a failed command keeps none", NoSuchElementException.class, x, () -> x.errorPosition());
        Checks.execute(x, "take ?");
        CHECKS.equal("kept", x.errorPosition(), 5);
        CHECKS.equal("the failed command stays", x.failedCommand(), 0);
        Checks.execute(x, "fill");
        CHECKS.equal("kept after a success", x.errorPosition(), 5);
        Checks.execute(x, "take 0;take 0");
        CHECKS.equal("kept after a failed command", x.errorPosition(), 5);
        x.undo();
        x.save();
        x.restore();
        CHECKS.equal("kept after undo and restore", x.errorPosition(), 5);
        Checks.execute(x, "?");
        CHECKS.equal("the last is kept", x.errorPosition(), 0);
    }

    private static void promise51FailedCommand() {
        MosaicCatalogue x = example();
        CHECKS.fails("none was kept", NoSuchElementException.class, x, () -> x.failedCommand());
        Checks.execute(x, "fillx");
        CHECKS.fails("a malformed text keeps none", NoSuchElementException.class, x, () -> x.failedCommand());
        Checks.execute(x, "turn 0*3;turn 0*4");
        CHECKS.equal("the second", x.failedCommand(), 1);
        Checks.execute(x, "turn 0*3");
        CHECKS.equal("kept after a success", x.failedCommand(), 1);
        Checks.execute(x, "??");
        CHECKS.equal("kept after a malformed text", x.failedCommand(), 1);
        x.undo();
        x.save();
        x.restore();
        CHECKS.equal("kept after undo and restore", x.failedCommand(), 1);
        Checks.execute(x, "take 0;take 0;take 9");
        CHECKS.equal("the first that fails", x.failedCommand(), 1);
        Checks.execute(x, "take 9");
        CHECKS.equal("the last is kept", x.failedCommand(), 0);
    }

    private static void failed(String text, int command) {
        MosaicCatalogue x = example();
        CHECKS.equal("\"" + text + "\"", Checks.execute(x, text), FAILED);
        CHECKS.equal("\"" + text + "\" command", x.failedCommand(), command);
    }

    private static void promise51EachCommand() {
        failed("put 9@00", 0);
        failed("put 1@80", 0);
        failed("put 1@08", 0);
        failed("put 1@99", 0);
        failed("put 0@00", 0);
        failed("put 1@33", 0);
        failed("take 3", 0);
        failed("take 1", 0);
        failed("turn 99*0", 0);
        failed("turn 1*4", 0);
        failed("turn 1*9", 0);
        failed("swap 0&9", 0);
        failed("swap 9&0", 0);
        failed("swap 0&0", 0);
        failed("swap 0&1", 0);
        failed("drop 0", 0);
        failed("drop 9", 0);
        failed("drop 1;take 1", 1);
        failed("fill;put 1@44", 1);
        MosaicCatalogue x = new MosaicCatalogue();
        for (int id = 0; id < 19; id++) {
            x.addFragment('a', 0, 0, 0, 0);
        }
        CHECKS.equal("21 fragments", Checks.execute(x, "new a0000;new a0000"), FAILED);
        CHECKS.equal("the 21st", x.failedCommand(), 1);
        CHECKS.equal("still 19", x.fragmentCount(), 19);
        CHECKS.equal("room by a drop", Checks.execute(x, "new a0000;drop 0;new b0000"), 3);
        CHECKS.equal("the last id", x.colour(20), 'b');
    }
}
