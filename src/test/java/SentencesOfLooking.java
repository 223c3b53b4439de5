/** Tests of promises 12 to 18: append, clearText, run, count, hook, copy, where. */
final class SentencesOfLooking {
    private SentencesOfLooking() {
    }

    static void all(Sentences of) {
        texts(of);
        count(of);
        of.under("Promise 16: hook");
        of.test("`int hook(int hook)`: Returns what hangs on a hook.", SentencesOfLooking::hook);
        of.test("- `hook`: 0 to 7", SentencesOfLooking::hookRange);
        of.test("Returns the address;", SentencesOfLooking::hookAddress);
        of.test("INVALID_ARGUMENT if hook is out of range;", SentencesOfLooking::hookWrong);
        of.test("NONE if it is empty.", SentencesOfLooking::hookEmpty);
        copy(of);
        of.under("Promise 18: where");
        of.test("`int where(int thing, int index)`: Returns the address of a copy of a thing.",
                SentencesOfLooking::where);
        of.test("- `thing`: a thing", SentencesOfLooking::whereThings);
        of.test("- `index`: 0 for its copy with the smallest address, 1 for the next one, and so on",
                SentencesOfLooking::whereIndices);
        of.test("Returns the address;", SentencesOfLooking::whereAddress);
        of.test("INVALID_ARGUMENT if there is no such thing", SentencesOfLooking::whereNoThing);
        of.test("or index is negative;", SentencesOfLooking::whereNegative);
        of.test("NONE if there are not so many copies.", SentencesOfLooking::whereNotSoMany);
    }

    private static void texts(Sentences of) {
        of.under("Promise 12: append");
        of.test("`int append(int character)`: Appends a character to the text.", SentencesOfLooking::append);
        of.test("- `character`: character code, 1 to 255", SentencesOfLooking::appendRange);
        of.test("Returns the new length of the text;", SentencesOfLooking::appendLength);
        of.test("INVALID_ARGUMENT if character is out of range;", SentencesOfLooking::appendWrong);
        of.test("CAPACITY_EXCEEDED if the text already has 80 characters.", SentencesOfLooking::appendFull);
        of.under("Promise 13: clearText");
        of.test("`int clearText()`: Makes the text empty.", SentencesOfLooking::clearText);
        of.test("Returns the previous length of the text.", SentencesOfLooking::clearTextLength);
        of.under("Promise 14: run");
        of.test("`int run()`: Runs the text.", SentencesOfLooking::run);
        of.test("If it does not fail, this is one action,", SentencesOfLooking::runIsOneAction);
        of.test("also without errands,", SentencesOfLooking::runWithoutErrands);
        of.test("and the text becomes empty;", SentencesOfLooking::runEmptiesTheText);
        of.test("if it fails, the text is kept.", SentencesOfLooking::runKeepsTheText);
        of.test("Returns the number of errands;", SentencesOfLooking::runErrands);
        of.test("-1000 minus the place of the failure if it fails.", SentencesOfLooking::runFailures);
    }

    private static void count(Sentences of) {
        of.under("Promise 15: count");
        of.noBoundary("`int count(int what)`: Returns a number.");
        of.test("- `what`: 0 the number of things made,", SentencesOfLooking::thingsMade);
        of.test("1 of copies that are not gone,", SentencesOfLooking::copiesNotGone);
        of.test("2 1 if a move goes on and 0 if not,", SentencesOfLooking::moveGoesOn);
        of.test("3 the present half,", SentencesOfLooking::presentHalf);
        of.test("4 the places of the present half that are free,", SentencesOfLooking::freeInHalf);
        of.test("5 the places of the floor that are free,", SentencesOfLooking::freeOnFloor);
        of.test("6 the number of copies in the queue,", SentencesOfLooking::queue);
        of.test("7 the room that is kept (0 if no move goes on),", SentencesOfLooking::roomKept);
        of.test("8 the number of notes lost so far,", SentencesOfLooking::notesLost);
        of.test("9 of moves that have ended,", SentencesOfLooking::movesEnded);
        of.test("10 of things that have twins,", SentencesOfLooking::thingsWithTwins);
        of.test("11 the heavy bound,", SentencesOfLooking::heavyBound);
        of.test("12 the number of states in the history,", SentencesOfLooking::states);
        of.test("13 the length of the text", SentencesOfLooking::textLength);
        of.test("Returns the number; INVALID_ARGUMENT if what is out of range.", SentencesOfLooking::countWrong);
    }

    private static void copy(Sentences of) {
        of.under("Promise 17: copy");
        of.test("`int copy(int address, int what)`: Returns a property of the copy at an address.",
                SentencesOfLooking::copy);
        of.test("- `address`: an address", SentencesOfLooking::copyAddresses);
        of.test("- `what`: 0 the number of its thing,", SentencesOfLooking::copyThing);
        of.test("1 its size,", SentencesOfLooking::copySize);
        of.test("2 the address of its note (NONE without one),", SentencesOfLooking::copyNote);
        of.test("3 1 if it is marked and 0 if not,", SentencesOfLooking::copyMark);
        of.test("4 its name 0 and 5 its name 1 (NONE if it is empty)", SentencesOfLooking::copyNames);
        of.noBoundary("Returns the property;");
        of.test("INVALID_ARGUMENT if there is no copy whose first place is at this address,",
                SentencesOfLooking::copyNoCopy);
        of.test("or what is out of range.", SentencesOfLooking::copyWrongWhat);
    }

    private static void append(Due due) {
        NamedMoves x = new NamedMoves();
        String text = "m1,0;d0;";
        for (int place = 0; place < text.length(); place++) {
            x.append(text.charAt(place));
        }
        due.same("the characters in their order", x.run(), 2);
        due.same("the first errand", x.count(0), 1);
        due.same("then the other one", x.hook(0), -9);
        x.append('b');
        x.append(256);
        x.append(';');
        due.same("a refused one is not in it", x.run(), 1);
    }

    private static void appendRange(Due due) {
        for (int character = 1; character <= 255; character++) {
            NamedMoves x = new NamedMoves();
            due.same("append(" + character + ")", x.append(character), 1);
            due.same("length", x.count(13), 1);
        }
        due.same("too small", new NamedMoves().append(0), -1);
        due.same("too large", new NamedMoves().append(256), -1);
    }

    private static void appendLength(Due due) {
        NamedMoves x = new NamedMoves();
        for (int length = 1; length <= 80; length++) {
            due.same("append", x.append('b'), length);
            due.same("length", x.count(13), length);
        }
        x.clearText();
        due.same("of an empty text", x.append('b'), 1);
    }

    private static void appendWrong(Due due) {
        NamedMoves x = new NamedMoves();
        for (int wrong : new int[] {Integer.MIN_VALUE, -255, -1, 0, 256, 257, 256 + 'b', Integer.MAX_VALUE}) {
            due.same("append(" + wrong + ")", x.append(wrong), -1);
        }
        due.same("nothing was appended", x.count(13), 0);
    }

    private static void appendFull(Due due) {
        NamedMoves x = Stores.withText(new NamedMoves(), "b;".repeat(39) + "b");
        due.same("the 80th", x.append(';'), 80);
        due.same("an 81st", x.append(';'), -3);
        due.same("and one more", x.append(255), -3);
        due.same("length", x.count(13), 80);
        due.same("as it was", x.run(), 40);
        due.same("then there is room", x.append('b'), 1);
    }

    private static void clearText(Due due) {
        NamedMoves x = Stores.withText(Stores.twins(), "d0;d1;");
        x.clearText();
        due.same("empty", x.count(13), 0);
        due.same("nothing is run", x.run(), 0);
        due.same("hook", x.hook(0), 100);
        due.same("the next one is the first one", x.append('b'), 1);
        NamedMoves y = Stores.withText(new NamedMoves(), "b;".repeat(40));
        y.clearText();
        due.same("80 have room again", Stores.withText(y, "b;".repeat(40)).count(13), 80);
    }

    private static void clearTextLength(Due due) {
        NamedMoves x = new NamedMoves();
        due.same("of an empty one", x.clearText(), 0);
        for (int length = 1; length <= 20; length++) {
            due.same("length", Stores.withText(x, "b".repeat(length)).clearText(), length);
            due.same("then none", x.clearText(), 0);
        }
        due.same("80", Stores.withText(x, "b".repeat(80)).clearText(), 80);
        Stores.withText(x, "b;").run();
        due.same("behind a run", x.clearText(), 0);
        Stores.withText(x, "d8;").run();
        due.same("behind a run that fails", x.clearText(), 3);
    }

    private static void run(Due due) {
        NamedMoves x = Stores.withText(new NamedMoves(), "m1,0;m2,1;m3,2;l0,0,2;l1,0,2;d2;b;s1;");
        due.same("run", x.run(), 8);
        NamedMoves y = Stores.midMove();
        due.same("things", x.count(0), y.count(0) - 1);
        due.same("queue", x.count(6), y.count(6));
        for (int hook = 0; hook < 3; hook++) {
            due.same("hook", x.hook(hook), y.hook(hook));
        }
        for (int address = 100; address <= 103; address++) {
            due.same("name 0", x.copy(address, 4), y.copy(address, 4));
        }
    }

    private static void runIsOneAction(Due due) {
        Told.action(due, "run", () -> Stores.withText(Stores.twins(), "d0;d1;b;b;m1,0;m2,1;b;"), NamedMoves::run, 7);
        NamedMoves x = Stores.withText(new NamedMoves(), "b;b;b;b;b;b;b;");
        due.same("more errands than states are kept", x.run(), 7);
        due.same("one state", x.count(12), 1);
        due.same("undo", x.undo(), 0);
        due.same("all of it", x.count(9), 0);
        NamedMoves y = Stores.withText(Stores.lightAndHeavy(), "d8;");
        due.same("a run that fails", y.run(), -1000);
        due.same("is none", y.count(12), 2);
    }

    private static void runWithoutErrands(Due due) {
        Told.action(due, "run", Stores::midMove, NamedMoves::run, 0);
        NamedMoves x = new NamedMoves();
        for (int call = 1; call <= 7; call++) {
            due.same("run", x.run(), 0);
            due.same("states", x.count(12), Math.min(5, call));
        }
    }

    private static void runEmptiesTheText(Due due) {
        NamedMoves x = Stores.withText(new NamedMoves(), "b;b;");
        due.same("run", x.run(), 2);
        due.same("empty", x.count(13), 0);
        due.same("nothing more to run", x.run(), 0);
        due.same("moves", x.count(9), 2);
        due.same("empty", x.clearText(), 0);
        x.undo();
        due.same("undo doesn't bring it back", x.count(13), 0);
    }

    private static void runKeepsTheText(Due due) {
        NamedMoves x = Stores.withText(new NamedMoves(), "m1,0;l1,0,0;");
        due.same("run", x.run(), -1005);
        due.same("length", x.count(13), 12);
        due.same("again the same", x.run(), -1005);
        x.make(2, 1);
        due.same("now it doesn't fail", x.run(), 2);
        due.same("then it is empty", x.count(13), 0);
        NamedMoves y = Stores.withText(new NamedMoves(), "b;d");
        due.same("an end too soon", y.run(), -1003);
        y.append('7');
        due.same("an end too soon", y.run(), -1004);
        y.append(';');
        due.same("whole", y.run(), 2);
    }

    private static void runErrands(Due due) {
        for (int errands = 0; errands <= 40; errands++) {
            NamedMoves x = Stores.withText(new NamedMoves(), "b;".repeat(errands));
            due.same("run", x.run(), errands);
            due.same("moves", x.count(9), errands);
        }
    }

    private static void runFailures(Due due) {
        due.same("place 0", Stores.withText(new NamedMoves(), "x").run(), -1000);
        due.same("place 1", Stores.withText(new NamedMoves(), "bx").run(), -1001);
        due.same("place 78", Stores.withText(new NamedMoves(), "b;".repeat(39) + "x").run(), -1078);
        due.same("place 79", Stores.withText(new NamedMoves(), "b;".repeat(39) + "bx").run(), -1079);
        due.same("place 80", Stores.withText(new NamedMoves(), "b;".repeat(39) + "s1").run(), -1080);
    }

    private static void thingsMade(Due due) {
        NamedMoves x = new NamedMoves();
        for (int made = 0; made < 40; made++) {
            due.same("made", x.count(0), made);
            x.make(1, 0);
        }
        due.same("made", x.count(0), 40);
        x.make(1, 0);
        due.same("no more", x.count(0), 40);
        x.drop(0);
        x.begin();
        due.same("also when all are gone", x.count(0), 40);
        due.same("copies are none", Stores.twins().count(0), 4);
    }

    private static void copiesNotGone(Due due) {
        NamedMoves x = Stores.twoNamers();
        due.same("four things", x.count(1), 4);
        x.begin();
        due.same("two carried", x.count(1), 6);
        x.carry(1);
        due.same("one more", x.count(1), 7);
        x.lose(2);
        x.carry(1);
        due.same("a twin", x.count(1), 8);
        x.carry(99);
        due.same("the old ones are gone", x.count(1), 4);
        x.mend(2);
        due.same("the twin is gone", x.count(1), 3);
        x.make(7, 4);
        due.same("on the floor", x.count(1), 4);
        x.drop(4);
        due.same("garbage", x.count(1), 4);
        due.same("none", new NamedMoves().count(1), 0);
        due.same("forty", Stores.fortyThings().count(1), 40);
    }

    private static void moveGoesOn(Due due) {
        NamedMoves x = Stores.lightAndHeavy();
        due.same("before it", x.count(2), 0);
        x.begin();
        due.same("begun", x.count(2), 1);
        x.carry(1);
        due.same("before the last step", x.count(2), 1);
        x.carry(1);
        due.same("behind it", x.count(2), 0);
        x.drop(0);
        x.drop(1);
        x.begin();
        due.same("one of nothing", x.count(2), 0);
    }

    private static void presentHalf(Due due) {
        NamedMoves x = Stores.lightAndHeavy();
        due.same("at first", x.count(3), 0);
        x.begin();
        due.same("in the first move", x.count(3), 1);
        x.carry(99);
        due.same("behind it", x.count(3), 1);
        x.begin();
        due.same("in the second move", x.count(3), 0);
        x.undo();
        due.same("undone", x.count(3), 1);
    }

    private static void freeInHalf(Due due) {
        NamedMoves x = Stores.fullHalf();
        due.same("none", x.count(4), 0);
        x.undo();
        due.same("four", x.count(4), 4);
        x.make(3, 5);
        due.same("one", x.count(4), 1);
        x.drop(5);
        due.same("still one", x.count(4), 1);
        x.begin();
        due.same("in the move, of the new half", x.count(4), 4);
        due.same("all", new NamedMoves().count(4), 64);
        due.same("what is kept is free", Stores.midMove().count(4), 58);
    }

    private static void freeOnFloor(Due due) {
        NamedMoves x = Stores.fullFloor();
        due.same("none", x.count(5), 0);
        x.undo();
        due.same("twelve", x.count(5), 12);
        x.setHeavy(2);
        x.make(11, 4);
        due.same("one", x.count(5), 1);
        x.drop(4);
        due.same("still one", x.count(5), 1);
        x.begin();
        due.same("in the move, too", x.count(5), 1);
        x.carry(99);
        due.same("behind it", x.count(5), 12);
        due.same("all", new NamedMoves().count(5), 60);
    }

    private static void queue(Due due) {
        NamedMoves x = Stores.twoNamers();
        due.same("no move", x.count(6), 0);
        x.begin();
        due.same("two hooks", x.count(6), 2);
        x.carry(1);
        due.same("one out, one in", x.count(6), 2);
        x.carry(1);
        due.same("one out", x.count(6), 1);
        x.carry(1);
        due.same("behind it", x.count(6), 0);
        NamedMoves y = Stores.manyTwinsBegun();
        y.carry(5);
        due.same("a chain", y.count(6), 1);
    }

    private static void roomKept(Due due) {
        NamedMoves x = Stores.fullHalf();
        due.same("no move", x.count(7), 0);
        x.drop(0);
        x.begin();
        due.same("one of twelve", x.count(7), 12);
        x.carry(5);
        due.same("no move", x.count(7), 0);
        NamedMoves y = Stores.fullHalf();
        y.begin();
        due.same("a move in which all are carried", y.count(7), 0);
        NamedMoves z = Stores.fullHalf();
        for (int hook = 0; hook < 6; hook++) {
            z.drop(hook);
        }
        z.setHeavy(6);
        z.make(6, 0);
        z.begin();
        due.same("all of the old half", z.count(7), 64);
        due.same("and so no room at all", z.make(1, 1), -3);
    }

    private static void notesLost(Due due) {
        NamedMoves x = Stores.midMove();
        due.same("none", x.count(8), 0);
        x.lose(3);
        due.same("a refused one", x.count(8), 0);
        x.lose(2);
        due.same("one", x.count(8), 1);
        x.carry(1);
        x.lose(2);
        due.same("the same copy's note again", x.count(8), 2);
        x.carry(99);
        due.same("behind the move", x.count(8), 2);
        x.undo();
        x.undo();
        due.same("undone", x.count(8), 1);
    }

    private static void movesEnded(Due due) {
        NamedMoves x = Stores.lightAndHeavy();
        due.same("none", x.count(9), 0);
        x.begin();
        x.carry(1);
        due.same("one that goes on", x.count(9), 0);
        x.carry(1);
        due.same("it has ended", x.count(9), 1);
        x.undo();
        due.same("undone", x.count(9), 0);
        NamedMoves y = new NamedMoves();
        y.begin();
        due.same("one of nothing", y.count(9), 1);
    }

    private static void thingsWithTwins(Due due) {
        due.same("none", Stores.twoNamers().count(10), 0);
        NamedMoves x = Stores.midMove();
        due.same("an old copy is no twin", x.count(10), 0);
        x.lose(2);
        due.same("nor without its note", x.count(10), 0);
        due.same("two copies", Stores.twins().count(10), 1);
        NamedMoves y = Stores.manyTwins();
        due.same("thirty-one copies of one thing", y.count(10), 1);
        NamedMoves z = Stores.twoNamers();
        z.make(1, 5);
        z.link(0, 1, 5);
        z.link(1, 1, 5);
        z.drop(5);
        z.begin();
        z.carry(1);
        z.lose(2);
        z.lose(4);
        z.carry(1);
        due.same("two things", z.count(10), 2);
        z.carry(99);
        z.mend(2);
        due.same("one is mended", z.count(10), 1);
        z.mend(4);
        due.same("the other one, too", z.count(10), 0);
    }

    private static void heavyBound(Due due) {
        NamedMoves x = new NamedMoves();
        due.same("at first", x.count(11), 6);
        for (int bound = 2; bound <= 13; bound++) {
            x.setHeavy(bound);
            due.same("bound", x.count(11), bound);
        }
        x.setHeavy(14);
        due.same("a refused one", x.count(11), 13);
        x.undo();
        due.same("undone", x.count(11), 12);
    }

    private static void states(Due due) {
        NamedMoves x = new NamedMoves();
        for (int call = 0; call < 8; call++) {
            due.same("states", x.count(12), Math.min(5, call));
            x.drop(0);
        }
        for (int left = 4; left >= 0; left--) {
            x.undo();
            due.same("left", x.count(12), left);
        }
        x.undo();
        due.same("no less than none", x.count(12), 0);
    }

    private static void textLength(Due due) {
        NamedMoves x = new NamedMoves();
        for (int length = 0; length <= 80; length++) {
            due.same("length", x.count(13), length);
            x.append('b');
        }
        due.same("no more than 80", x.count(13), 80);
        x.make(1, 0);
        x.undo();
        due.same("undo leaves it", x.count(13), 80);
        x.clearText();
        due.same("empty", x.count(13), 0);
    }

    private static void countWrong(Due due) {
        NamedMoves x = Stores.midMove();
        for (int what = 0; what <= 13; what++) {
            due.holds("count(" + what + ") is a number", x.count(what) >= 0);
        }
        for (int wrong : new int[] {Integer.MIN_VALUE, -2, -1, 14, 15, 300, Integer.MAX_VALUE}) {
            due.same("count(" + wrong + ")", x.count(wrong), -1);
        }
    }

    private static void hook(Due due) {
        NamedMoves x = Stores.lightAndHeavy();
        due.same("made", x.hook(1), 200);
        x.make(1, 1);
        due.same("in its place", x.hook(1), 2);
        x.drop(1);
        due.same("dropped", x.hook(1), -9);
        x.follow(0, 0, 0);
        due.same("emptied by follow", x.hook(0), -9);
    }

    private static void hookRange(Due due) {
        NamedMoves x = new NamedMoves();
        for (int hook = 0; hook < 8; hook++) {
            x.make(3, hook);
        }
        for (int hook = 0; hook < 8; hook++) {
            due.same("hook(" + hook + ")", x.hook(hook), 3 * hook);
        }
        due.same("too small", x.hook(-1), -1);
        due.same("too large", x.hook(8), -1);
    }

    private static void hookAddress(Due due) {
        NamedMoves x = Stores.lightAndHeavy();
        due.same("address 0", x.hook(0), 0);
        due.same("floor", x.hook(1), 200);
        x.begin();
        due.same("half 1", x.hook(0), 100);
        due.same("it stays on the floor", x.hook(1), 200);
    }

    private static void hookWrong(Due due) {
        for (int wrong : new int[] {Integer.MIN_VALUE, -2, -1, 8, 9, 300, Integer.MAX_VALUE}) {
            due.same("hook(" + wrong + ")", new NamedMoves().hook(wrong), -1);
            due.same("hook(" + wrong + ")", Stores.midMove().hook(wrong), -1);
        }
    }

    private static void hookEmpty(Due due) {
        NamedMoves x = Stores.lightAndHeavy();
        for (int hook = 2; hook < 8; hook++) {
            due.same("never hung", x.hook(hook), -9);
        }
        x.drop(0);
        due.same("dropped", x.hook(0), -9);
        x.begin();
        due.same("in a move", x.hook(0), -9);
    }

    private static void copy(Due due) {
        NamedMoves x = Stores.midMove();
        int[][] rows = {{0, 0, 1, 100, 0, 3, -9}, {1, 1, 2, 101, 0, 3, -9}, {3, 2, 3, 103, 0, -9, -9},
            {6, 3, 4, -9, 0, -9, -9}, {100, 0, 1, -9, 0, 103, -9}, {101, 1, 2, -9, 0, 3, -9},
            {103, 2, 3, -9, 0, -9, -9}};
        for (int[] row : rows) {
            for (int what = 0; what < 6; what++) {
                due.same("copy(" + row[0] + ", " + what + ")", x.copy(row[0], what), row[what + 1]);
            }
        }
    }

    private static void copyAddresses(Due due) {
        NamedMoves x = Stores.midMove();
        int[] none = {Integer.MIN_VALUE, -200, -100, -1, 64, 99, 164, 199, 260, 300, Integer.MAX_VALUE};
        for (int wrong : none) {
            for (int what = 0; what < 6; what++) {
                due.same("copy(" + wrong + ", " + what + ")", x.copy(wrong, what), -1);
            }
        }
        NamedMoves y = Stores.fullHalf();
        y.setHeavy(2);
        for (int hook = 0; hook < 5; hook++) {
            y.make(12, hook);
        }
        int copies = 0;
        for (int address = -10; address < 400; address++) {
            copies += y.copy(address, 0) >= 0 ? 1 : 0;
        }
        due.same("each copy has one address", copies, 11);
    }

    private static void copyThing(Due due) {
        NamedMoves x = Stores.fortyThings();
        for (int thing = 0; thing < 40; thing++) {
            due.same("thing", x.copy(thing, 0), thing);
        }
        NamedMoves y = Stores.twins();
        due.same("a twin", y.copy(103, 0), 2);
        due.same("the other twin", y.copy(106, 0), 2);
    }

    private static void copySize(Due due) {
        for (int size = 1; size <= 12; size++) {
            NamedMoves x = new NamedMoves();
            x.make(size, 0);
            due.same("size", x.copy(x.hook(0), 1), size);
            x.begin();
            due.same("size in a move", x.copy(x.hook(0), 1), size);
        }
    }

    private static void copyNote(Due due) {
        NamedMoves x = Stores.lightAndHeavy();
        due.same("no move", x.copy(0, 2), -9);
        x.begin();
        due.same("carried", x.copy(0, 2), 100);
        due.same("the new one", x.copy(100, 2), -9);
        due.same("a heavy one", x.copy(200, 2), -9);
        x.lose(0);
        due.same("lost", x.copy(0, 2), -9);
        x.carry(99);
        x.begin();
        due.same("a note that is address 0", x.copy(100, 2), 0);
        x.drop(0);
        x.carry(99);
        x.begin();
        x.make(3, 0);
        due.same("made where one with a note lay", x.copy(100, 2), -9);
        due.same("not carried", Stores.midMove().copy(6, 2), -9);
    }

    private static void copyMark(Due due) {
        NamedMoves x = Stores.lightAndHeavy();
        x.make(7, 2);
        x.drop(2);
        due.same("no move", x.copy(200, 3), 0);
        x.begin();
        due.same("read", x.copy(200, 3), 1);
        due.same("not read", x.copy(207, 3), 0);
        due.same("in the present half", x.copy(100, 3), 0);
        due.same("in the old half", x.copy(0, 3), 0);
        x.make(7, 2);
        due.same("made", x.copy(214, 3), 1);
        x.carry(99);
        due.same("behind the move", x.copy(200, 3), 0);
        due.same("behind the move", x.copy(214, 3), 0);
    }

    private static void copyNames(Due due) {
        NamedMoves x = Stores.lightAndHeavy();
        due.same("name 0 is empty", x.copy(0, 4), -9);
        due.same("name 1 is empty", x.copy(0, 5), -9);
        x.link(0, 0, 1);
        due.same("name 0", x.copy(0, 4), 200);
        due.same("name 1 is empty", x.copy(0, 5), -9);
        x.link(0, 1, 0);
        due.same("name 1 is address 0", x.copy(0, 5), 0);
        x.link(0, 0, 7);
        due.same("name 0 is empty again", x.copy(0, 4), -9);
        x.link(1, 1, 0);
        due.same("heavy", x.copy(200, 5), 0);
    }

    private static void copyNoCopy(Due due) {
        NamedMoves x = Stores.lightAndHeavy();
        for (int what = 0; what < 6; what++) {
            due.same("its second place", x.copy(1, what), -1);
            due.same("behind it", x.copy(2, what), -1);
            due.same("its last place on the floor", x.copy(206, what), -1);
            due.same("behind it", x.copy(207, what), -1);
            due.same("the other half", x.copy(100, what), -1);
        }
        x.drop(0);
        x.drop(1);
        x.begin();
        due.same("gone", x.copy(0, 0), -1);
        due.same("gone", x.copy(200, 0), -1);
        NamedMoves y = Stores.twins();
        y.mend(2);
        due.same("mended", y.copy(106, 1), -1);
    }

    private static void copyWrongWhat(Due due) {
        NamedMoves x = Stores.midMove();
        for (int wrong : new int[] {Integer.MIN_VALUE, -2, -1, 6, 7, Integer.MAX_VALUE}) {
            due.same("copy(0, " + wrong + ")", x.copy(0, wrong), -1);
            due.same("copy(100, " + wrong + ")", x.copy(100, wrong), -1);
            due.same("copy(2, " + wrong + ")", x.copy(2, wrong), -1);
        }
    }

    private static void where(Due due) {
        NamedMoves x = Stores.midMove();
        int[][] addresses = {{0, 100}, {1, 101}, {3, 103}, {6, -9}};
        for (int thing = 0; thing < 4; thing++) {
            due.same("the first one", x.where(thing, 0), addresses[thing][0]);
            due.same("the second one", x.where(thing, 1), addresses[thing][1]);
            due.same("the third one", x.where(thing, 2), -9);
        }
    }

    private static void whereThings(Due due) {
        NamedMoves x = Stores.fortyThings();
        for (int thing = 0; thing < 40; thing++) {
            due.same("where(" + thing + ", 0)", x.where(thing, 0), thing);
        }
        due.same("too small", x.where(-1, 0), -1);
        due.same("too large", x.where(40, 0), -1);
    }

    private static void whereIndices(Due due) {
        NamedMoves x = Stores.midMove();
        x.lose(2);
        x.carry(1);
        int[] addresses = {3, 103, 106, -9};
        for (int index = 0; index < 4; index++) {
            due.same("where(2, " + index + ")", x.where(2, index), addresses[index]);
        }
        x.carry(99);
        x.begin();
        x.carry(99);
        x.begin();
        x.carry(2);
        int[] smaller = {3, 6, 103, 106, -9};
        due.same("half", x.count(3), 1);
        for (int index = 0; index < 5; index++) {
            due.same("where(2, " + index + ")", x.where(2, index), smaller[index]);
        }
        x.carry(99);
        x.begin();
        x.carry(2);
        due.same("half", x.count(3), 0);
        for (int index = 0; index < 5; index++) {
            due.same("the present half first", x.where(2, index), smaller[index]);
        }
    }

    private static void whereAddress(Due due) {
        NamedMoves x = Stores.lightAndHeavy();
        due.same("address 0", x.where(0, 0), 0);
        due.same("floor", x.where(1, 0), 200);
        x.begin();
        x.carry(99);
        due.same("half 1", x.where(0, 0), 100);
        due.same("floor", x.where(1, 0), 200);
    }

    private static void whereNoThing(Due due) {
        for (int wrong : new int[] {Integer.MIN_VALUE, -2, -1, 4, 5, 40, Integer.MAX_VALUE}) {
            due.same("where(" + wrong + ", 0)", Stores.midMove().where(wrong, 0), -1);
            due.same("where(" + wrong + ", 9)", Stores.midMove().where(wrong, 9), -1);
        }
        due.same("an empty store", new NamedMoves().where(0, 0), -1);
        NamedMoves x = Stores.midMove();
        x.make(1, 5);
        due.same("just made", x.where(4, 0), 106);
        x.undo();
        due.same("and undone", x.where(4, 0), -1);
    }

    private static void whereNegative(Due due) {
        NamedMoves x = Stores.midMove();
        for (int thing = 0; thing < 4; thing++) {
            due.same("-1", x.where(thing, -1), -1);
            due.same("far below", x.where(thing, Integer.MIN_VALUE), -1);
        }
        x.carry(99);
        due.same("of a thing without copies", x.where(3, -1), -1);
    }

    private static void whereNotSoMany(Due due) {
        NamedMoves x = Stores.midMove();
        due.same("one", x.where(3, 1), -9);
        due.same("two", x.where(2, 2), -9);
        due.same("far above", x.where(2, Integer.MAX_VALUE), -9);
        x.carry(99);
        due.same("none", x.where(3, 0), -9);
        NamedMoves y = Stores.twins();
        y.mend(2);
        due.same("mended", y.where(2, 1), -9);
    }
}
