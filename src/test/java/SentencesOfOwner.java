import java.util.function.IntUnaryOperator;

/** Tests of promises 1 to 6: a new object, setHeavy, make, link, follow, drop. */
final class SentencesOfOwner {
    private SentencesOfOwner() {
    }

    static void all(Sentences of) {
        of.under("Promise 1: A new object");
        of.test("`NamedMoves()`: Creates an empty store.", SentencesOfOwner::newObject);
        setHeavy(of);
        make(of);
        link(of);
        follow(of);
        of.under("Promise 6: drop");
        of.test("`int drop(int hook)`: Makes a hook empty.", SentencesOfOwner::drop);
        of.test("This is an action.", SentencesOfOwner::dropIsAnAction);
        of.test("- `hook`: 0 to 7", SentencesOfOwner::dropHooks);
        of.test("Returns the address that hung there,", SentencesOfOwner::dropAddress);
        of.test("300 if it was empty;", SentencesOfOwner::dropEmpty);
        of.test("INVALID_ARGUMENT if hook is out of range.", SentencesOfOwner::dropWrong);
    }

    private static void setHeavy(Sentences of) {
        of.under("Promise 2: setHeavy");
        of.test("`int setHeavy(int bound)`: Sets the heavy bound, for things that are made from now on.",
                SentencesOfOwner::setHeavyFromNowOn);
        of.test("This is an action.", SentencesOfOwner::setHeavyIsAnAction);
        of.test("- `bound`: 2 to 13", SentencesOfOwner::setHeavyBounds);
        of.test("Returns the previous bound;", SentencesOfOwner::setHeavyPrevious);
        of.test("INVALID_ARGUMENT if bound is out of range.", SentencesOfOwner::setHeavyWrong);
    }

    private static void make(Sentences of) {
        of.under("Promise 3: make");
        of.test("`int make(int size, int hook)`: Makes a thing with empty names,", SentencesOfOwner::makeNames);
        of.test("and hangs its address on a hook, in place of what hangs there.", SentencesOfOwner::makeHangs);
        of.test("This is an action.", SentencesOfOwner::makeIsAnAction);
        of.test("- `size`: 1 to 12", SentencesOfOwner::makeSizes);
        of.test("- `hook`: 0 to 7", SentencesOfOwner::makeHooks);
        of.test("Returns the number of the thing;", SentencesOfOwner::makeNumber);
        of.test("INVALID_ARGUMENT if an argument is out of range;", SentencesOfOwner::makeWrong);
        of.test("CAPACITY_EXCEEDED if 40 things were made,", SentencesOfOwner::makeForty);
        of.test("or there is no room for it (on the floor,", SentencesOfOwner::makeNoRoomOnTheFloor);
        of.test("or in the present half with the room that is kept).", SentencesOfOwner::makeNoRoomInTheHalf);
    }

    private static void link(Sentences of) {
        of.under("Promise 4: link");
        of.test("`int link(int hook, int name, int other)`: Reads two hooks, and writes the address of the second"
                + " one into a name of the copy at the address of the first one.", SentencesOfOwner::linkWrites);
        of.test("This is an action.", SentencesOfOwner::linkIsAnAction);
        of.test("- `hook`: 0 to 7", due -> range(due, 0, 7, hook -> eightThings().link(hook, 1, 2), 4));
        of.test("- `name`: 0 or 1", due -> range(due, 0, 1, name -> eightThings().link(3, name, 2), 4));
        of.test("- `other`: 0 to 7,", SentencesOfOwner::linkOthers);
        of.test("perhaps the same hook;", SentencesOfOwner::linkTheSame);
        of.test("if it is empty, the name becomes empty", SentencesOfOwner::linkEmpties);
        of.test("Returns the address that is written,", SentencesOfOwner::linkAddress);
        of.test("300 if the name becomes empty;", SentencesOfOwner::linkThreeHundred);
        of.test("INVALID_ARGUMENT if an argument is out of range;", SentencesOfOwner::linkWrong);
        of.test("ILLEGAL_STATE if the first hook is empty.", SentencesOfOwner::linkOfAnEmptyHook);
    }

    private static void follow(Sentences of) {
        of.under("Promise 5: follow");
        of.test("`int follow(int hook, int name, int other)`: Reads a hook, then a name of the copy at its address",
                SentencesOfOwner::followReads);
        of.test("(which becomes another one there, too, if it is read so),", SentencesOfOwner::followChangesTheName);
        of.test("and hangs the address that the name has then on a hook, in place of what hangs there.",
                SentencesOfOwner::followHangs);
        of.test("This is an action.", SentencesOfOwner::followIsAnAction);
        of.test("- `hook`: 0 to 7", due -> range(due, 0, 7, hook -> eightThings().follow(hook, 0, 2), 300));
        of.test("- `name`: 0 or 1", due -> range(due, 0, 1, name -> eightThings().follow(3, name, 2), 300));
        of.test("- `other`: 0 to 7,", SentencesOfOwner::followOthers);
        of.test("perhaps the same hook;", SentencesOfOwner::followTheSame);
        of.test("if the name is empty, this hook becomes empty", SentencesOfOwner::followEmpties);
        of.test("Returns the address that hangs there then,", SentencesOfOwner::followAddress);
        of.test("300 if the hook becomes empty;", SentencesOfOwner::followThreeHundred);
        of.test("INVALID_ARGUMENT if an argument is out of range;", SentencesOfOwner::followWrong);
        of.test("ILLEGAL_STATE if the first hook is empty.", SentencesOfOwner::followOfAnEmptyHook);
    }

    /** Each of the range is taken, and those beside it aren't. */
    private static void range(Due due, int least, int most, IntUnaryOperator call, int answer) {
        for (int number = least; number <= most; number++) {
            due.same("with " + number, call.applyAsInt(number), answer);
        }
        due.same("too small", call.applyAsInt(least - 1), -1);
        due.same("too large", call.applyAsInt(most + 1), -1);
    }

    /** Things 0 to 7 of 2 places on the hooks of their numbers. */
    private static NamedMoves eightThings() {
        NamedMoves x = new NamedMoves();
        for (int hook = 0; hook < 8; hook++) {
            x.make(2, hook);
        }
        return x;
    }

    private static void newObject(Due due) {
        NamedMoves x = new NamedMoves();
        int[] counts = {0, 0, 0, 0, 64, 60, 0, 0, 0, 0, 0, 6, 0, 0};
        for (int what = 0; what < counts.length; what++) {
            due.same("count(" + what + ")", x.count(what), counts[what]);
        }
        for (int hook = 0; hook < 8; hook++) {
            due.same("hook", x.hook(hook), -9);
        }
        for (int address = 0; address < 260; address++) {
            due.same("copy", x.copy(address, 0), -1);
        }
        due.same("no thing", x.where(0, 0), -1);
        due.same("no text", x.clearText(), 0);
        due.same("no history", x.undo(), -2);
        due.same("no move", x.carry(1), -2);
        x.make(1, 0);
        x.append('b');
        NamedMoves y = new NamedMoves();
        due.same("another one is empty, too", y.count(0) + y.count(13) + y.count(12), 0);
        due.same("and the first one is not", x.count(0) + x.count(13) + x.count(12), 3);
    }

    private static void setHeavyFromNowOn(Due due) {
        NamedMoves x = Stores.lightAndHeavy();
        x.setHeavy(8);
        due.same("what was made stays", x.hook(0), 0);
        due.same("what was made stays", x.hook(1), 200);
        x.make(7, 2);
        due.same("below the bound", x.hook(2), 2);
        x.make(8, 3);
        due.same("at the bound", x.hook(3), 207);
        x.setHeavy(2);
        x.make(1, 4);
        due.same("below the bound", x.hook(4), 9);
        x.make(2, 5);
        due.same("at the bound", x.hook(5), 215);
        due.same("light ones are carried, heavy ones marked", x.begin(), 6);
        due.same("carried", x.hook(2), 102);
        due.same("marked", x.hook(5), 215);
    }

    private static void setHeavyIsAnAction(Due due) {
        Told.action(due, "setHeavy", Stores::twins, x -> x.setHeavy(13), 6);
        Told.action(due, "setHeavy to what it was", Stores::midMove, x -> x.setHeavy(6), 6);
    }

    private static void setHeavyBounds(Due due) {
        range(due, 2, 13, bound -> new NamedMoves().setHeavy(bound), 6);
        for (int bound = 2; bound <= 13; bound++) {
            NamedMoves x = new NamedMoves();
            x.setHeavy(bound);
            due.same("the bound is", x.count(11), bound);
        }
    }

    private static void setHeavyPrevious(Due due) {
        NamedMoves x = new NamedMoves();
        due.same("at first", x.setHeavy(13), 6);
        due.same("the greatest", x.setHeavy(2), 13);
        due.same("the smallest", x.setHeavy(2), 2);
        due.same("a refused one is none", x.setHeavy(14), -1);
        due.same("the same", x.setHeavy(7), 2);
        x.undo();
        due.same("the one that was restored", x.setHeavy(7), 2);
    }

    private static void setHeavyWrong(Due due) {
        NamedMoves x = new NamedMoves();
        for (int bound : new int[] {1, 0, -1, 14, 15, Integer.MIN_VALUE, Integer.MAX_VALUE}) {
            due.same("setHeavy(" + bound + ")", x.setHeavy(bound), -1);
            due.same("the bound stays", x.count(11), 6);
            due.same("no state", x.count(12), 0);
        }
    }

    private static void makeNames(Due due) {
        NamedMoves x = Stores.twins();
        x.make(2, 4);
        x.make(6, 5);
        for (int hook = 4; hook < 6; hook++) {
            due.same("name 0", x.copy(x.hook(hook), 4), -9);
            due.same("name 1", x.copy(x.hook(hook), 5), -9);
        }
        x.link(4, 0, 0);
        x.link(4, 1, 0);
        x.link(5, 0, 0);
        x.link(5, 1, 0);
        for (int hook = 0; hook < 8; hook++) {
            x.drop(hook);
        }
        x.begin();
        x.begin();
        x.make(12, 5);
        due.same("name 0 where another one lay", x.copy(x.hook(5), 4), -9);
        due.same("name 1 where another one lay", x.copy(x.hook(5), 5), -9);
        for (int places = 0; places < 60; places += 5) {
            x.make(5, 4);
            due.same("name 0 in the half", x.copy(x.hook(4), 4), -9);
            due.same("name 1 in the half", x.copy(x.hook(4), 5), -9);
        }
    }

    private static void makeHangs(Due due) {
        NamedMoves x = new NamedMoves();
        due.same("on an empty hook", x.make(3, 7), 0);
        due.same("its address", x.hook(7), 0);
        due.same("on one that is not", x.make(6, 7), 1);
        due.same("in its place", x.hook(7), 200);
        due.same("the copy that hung there stays", x.copy(0, 0), 0);
        due.same("as garbage", x.garbage(), 3);
        for (int hook = 0; hook < 7; hook++) {
            due.same("other hooks stay", x.hook(hook), -9);
        }
    }

    private static void makeIsAnAction(Due due) {
        Told.action(due, "make", Stores::twins, x -> x.make(1, 0), 4);
        Told.action(due, "make of a heavy one", Stores::midMove, x -> x.make(6, 0), 4);
        Told.action(due, "make of the fortieth", () -> {
            NamedMoves x = Stores.fortyThings();
            x.undo();
            return x;
        }, x -> x.make(1, 1), 39);
    }

    private static void makeSizes(Due due) {
        range(due, 1, 12, size -> new NamedMoves().make(size, 0), 0);
        range(due, 1, 12, size -> Stores.midMove().make(size, 0), 4);
    }

    private static void makeHooks(Due due) {
        range(due, 0, 7, hook -> new NamedMoves().make(1, hook), 0);
        range(due, 0, 7, hook -> new NamedMoves().make(12, hook), 0);
    }

    private static void makeNumber(Due due) {
        NamedMoves x = new NamedMoves();
        for (int thing = 0; thing < 40; thing++) {
            due.same("make", x.make(1, 0), thing);
            due.same("the thing at its address", x.copy(x.hook(0), 0), thing);
        }
        due.same("the number of the first one is 0, which is no error", new NamedMoves().make(12, 0), 0);
    }

    private static void makeWrong(Due due) {
        NamedMoves x = new NamedMoves();
        for (int wrong : new int[] {Integer.MIN_VALUE, -2, -1, 0, 13, 14, Integer.MAX_VALUE}) {
            due.same("size " + wrong, x.make(wrong, 0), -1);
        }
        for (int wrong : new int[] {Integer.MIN_VALUE, -2, -1, 8, 9, Integer.MAX_VALUE}) {
            due.same("hook " + wrong, x.make(1, wrong), -1);
            due.same("hook " + wrong + " of a heavy one", x.make(12, wrong), -1);
            due.same("both", x.make(wrong, wrong), -1);
        }
        due.same("none was made", x.count(0), 0);
        due.same("no place was taken", x.count(4) + x.count(5), 124);
        due.same("no state", x.count(12), 0);
    }

    private static void makeForty(Due due) {
        NamedMoves x = Stores.fortyThings();
        due.same("a 41st", x.make(1, 0), -3);
        due.same("a 41st on the floor", x.make(12, 0), -3);
        due.same("forty", x.count(0), 40);
        due.same("the hook stays", x.hook(0), 39);
        x.undo();
        due.same("the 40th", x.make(12, 0), 39);
        due.same("a 41st", x.make(1, 0), -3);
    }

    private static void makeNoRoomOnTheFloor(Due due) {
        NamedMoves x = Stores.fullFloor();
        due.same("a full floor", x.make(6, 0), -3);
        due.same("the half has room", x.make(5, 0), 5);
        NamedMoves y = new NamedMoves();
        for (int hook = 0; hook < 8; hook++) {
            y.make(7, hook);
        }
        due.same("56 are taken", y.count(5), 4);
        due.same("four places are too few", y.make(6, 7), -3);
        y.setHeavy(4);
        due.same("five in four", y.make(5, 7), -3);
        due.same("four in four", y.make(4, 7), 8);
        due.same("at the end", y.hook(7), 256);
        for (int hook = 0; hook < 8; hook += 2) {
            y.drop(hook);
        }
        y.drop(7);
        y.begin();
        due.same("what a move will sweep is still taken", y.make(4, 7), -3);
        y.carry(99);
        due.same("three gaps of seven and one of eighteen are free", y.count(5), 60 - 21);
        due.same("twelve of eighteen", y.make(12, 0), 9);
        due.same("there", y.hook(0), 242);
        due.same("eight in gaps of seven and six", y.make(8, 0), -3);
        due.same("seven", y.make(7, 0), 10);
        due.same("there", y.hook(0), 200);
    }

    private static void makeNoRoomInTheHalf(Due due) {
        NamedMoves x = Stores.fullHalf();
        due.same("a full half", x.make(1, 0), -3);
        x.undo();
        due.same("five in four", x.make(5, 5), -3);
        due.same("four in four", x.make(4, 5), 5);
        x.drop(4);
        x.drop(5);
        due.same("a move", x.begin(), 4);
        due.same("free", x.count(4), 16);
        due.same("kept", x.count(7), 16);
        due.same("all of it is kept", x.make(1, 5), -3);
        due.same("without end", x.carry(3), 3);
        due.same("all of it is kept", x.make(1, 5), -3);
        due.same("the end", x.carry(1), 1);
        due.same("four more than is free", x.make(12, 4) + x.make(5, 5), 6 - 3);
        due.same("just so many", x.make(4, 5), 7);
        due.same("the last place", x.count(4), 0);
    }

    private static void linkWrites(Due due) {
        NamedMoves x = Stores.lightAndHeavy();
        due.same("light to heavy", x.link(0, 0, 1), 200);
        due.same("written", x.copy(0, 4), 200);
        due.same("heavy to light", x.link(1, 1, 0), 0);
        due.same("written", x.copy(200, 5), 0);
        due.same("in place of what it was", x.link(0, 0, 0), 0);
        due.same("written", x.copy(0, 4), 0);
        due.same("the hooks stay", x.hook(0) + x.hook(1), 200);
        NamedMoves y = Stores.midMove();
        y.make(7, 5);
        due.same("in a move, the new addresses", y.link(5, 0, 0), 100);
        due.same("written", y.copy(200, 4), 100);
        due.same("in the new copy", y.link(1, 0, 0), 100);
        due.same("written there", y.copy(101, 4), 100);
        due.same("not in the old one", y.copy(1, 4), 3);
    }

    private static void linkIsAnAction(Due due) {
        Told.action(due, "link", Stores::midMove, x -> x.link(1, 0, 0), 100);
        Told.action(due, "link to what it was", Stores::twins, x -> x.link(0, 1, 5), 300);
    }

    private static void linkOthers(Due due) {
        for (int other = 0; other < 8; other++) {
            due.same("with " + other, eightThings().link(3, 0, other), 2 * other);
        }
        due.same("too small", eightThings().link(3, 0, -1), -1);
        due.same("too large", eightThings().link(3, 0, 8), -1);
    }

    private static void linkTheSame(Due due) {
        for (int hook = 0; hook < 8; hook++) {
            NamedMoves x = eightThings();
            due.same("to itself", x.link(hook, 1, hook), 2 * hook);
            due.same("written", x.copy(2 * hook, 5), 2 * hook);
            due.same("one thing", x.named(hook), 1);
        }
        NamedMoves x = Stores.midMove();
        due.same("in a move", x.link(1, 0, 1), 101);
        due.same("an empty one", x.link(7, 0, 7), -2);
    }

    private static void linkEmpties(Due due) {
        NamedMoves x = Stores.twoNamers();
        due.same("was", x.copy(0, 4), 3);
        due.same("link", x.link(0, 0, 7), 300);
        due.same("empty", x.copy(0, 4), -9);
        due.same("the other one is not", x.copy(1, 4), 3);
        due.same("empty once more", x.link(0, 0, 7), 300);
        due.same("empty", x.copy(0, 4), -9);
        due.same("not carried by it then", x.begin() + x.carry(1), 3);
        due.same("no note", x.copy(3, 2), -9);
    }

    private static void linkAddress(Due due) {
        NamedMoves x = Stores.lightAndHeavy();
        due.same("address 0", x.link(1, 0, 0), 0);
        due.same("floor", x.link(1, 0, 1), 200);
        x.begin();
        due.same("half 1", x.link(1, 0, 0), 100);
    }

    private static void linkThreeHundred(Due due) {
        NamedMoves x = Stores.lightAndHeavy();
        for (int other = 2; other < 8; other++) {
            due.same("light", x.link(0, 0, other), 300);
            due.same("heavy", x.link(1, 1, other), 300);
        }
        x.begin();
        due.same("in a move", x.link(0, 0, 7), 300);
    }

    private static void linkWrong(Due due) {
        NamedMoves x = eightThings();
        for (int wrong : new int[] {Integer.MIN_VALUE, -1, 8, Integer.MAX_VALUE}) {
            due.same("hook " + wrong, x.link(wrong, 0, 0), -1);
            due.same("name " + wrong, x.link(0, wrong, 0), -1);
            due.same("other " + wrong, x.link(0, 0, wrong), -1);
            due.same("all", x.link(wrong, wrong, wrong), -1);
        }
        due.same("name 2", x.link(0, 2, 0), -1);
        due.same("nothing was written", x.copy(0, 4) + x.copy(0, 5), -18);
    }

    private static void linkOfAnEmptyHook(Due due) {
        NamedMoves x = Stores.lightAndHeavy();
        due.same("never hung", x.link(2, 0, 0), -2);
        x.drop(0);
        due.same("dropped", x.link(0, 0, 1), -2);
        due.same("the copy that hung there stays", x.copy(0, 4), -9);
        due.same("the second one may be empty", x.link(1, 0, 0), 300);
    }

    private static void followReads(Due due) {
        NamedMoves x = Stores.twoNamers();
        due.same("without a move", x.follow(0, 0, 5), 3);
        x.begin();
        due.same("without a note it is carried", x.follow(0, 0, 5), 103);
        due.same("it joins", x.count(6), 3);
        due.same("with a note it is not", x.follow(1, 0, 6), 103);
        due.same("none joins", x.count(6), 3);
        NamedMoves y = Stores.lightAndHeavy();
        y.link(0, 1, 1);
        y.drop(1);
        y.begin();
        due.same("on the floor", y.follow(0, 1, 5), 200);
        due.same("marked", y.copy(200, 3), 1);
        due.same("the other name is not read", y.follow(0, 0, 5), 300);
    }

    private static void followChangesTheName(Due due) {
        NamedMoves x = Stores.twoNamers();
        due.same("without a move", x.follow(1, 0, 6), 3);
        due.same("it stays", x.copy(1, 4), 3);
        x.drop(6);
        x.begin();
        due.same("old", x.copy(101, 4), 3);
        due.same("read", x.follow(1, 0, 6), 103);
        due.same("becomes another one", x.copy(101, 4), 103);
        due.same("that of the other namer does not", x.copy(100, 4), 3);
        due.same("nor that of the old copy", x.copy(1, 4), 3);
    }

    private static void followHangs(Due due) {
        NamedMoves x = Stores.twoNamers();
        x.follow(0, 0, 1);
        due.same("in place of what hung there", x.hook(1), 3);
        due.same("the first hook stays", x.hook(0), 0);
        due.same("the copy that hung there stays", x.copy(1, 0), 1);
        x.begin();
        due.same("follow", x.follow(0, 0, 7), 101);
        due.same("the address that the name has then", x.hook(7), 101);
        due.same("the name", x.copy(100, 4), 101);
    }

    private static void followIsAnAction(Due due) {
        Told.action(due, "follow", Stores::midMove, x -> x.follow(1, 0, 1), 103);
        Told.action(due, "follow to what hung there", Stores::midMove, x -> x.follow(0, 1, 7), 300);
    }

    private static void followOthers(Due due) {
        for (int other = 0; other < 8; other++) {
            NamedMoves x = eightThings();
            x.link(3, 0, 6);
            due.same("with " + other, x.follow(3, 0, other), 12);
            due.same("it hangs there", x.hook(other), 12);
        }
        due.same("too small", eightThings().follow(3, 0, -1), -1);
        due.same("too large", eightThings().follow(3, 0, 8), -1);
    }

    private static void followTheSame(Due due) {
        NamedMoves x = eightThings();
        for (int hook = 6; hook >= 0; hook--) {
            x.link(hook, 1, hook + 1);
        }
        for (int step = 1; step < 8; step++) {
            due.same("one further", x.follow(0, 1, 0), 2 * step);
            due.same("it hangs there", x.hook(0), 2 * step);
        }
        due.same("at the end", x.follow(0, 1, 0), 300);
        due.same("empty", x.hook(0), -9);
        due.same("no further", x.follow(0, 1, 0), -2);
    }

    private static void followEmpties(Due due) {
        NamedMoves x = Stores.lightAndHeavy();
        due.same("follow", x.follow(0, 1, 1), 300);
        due.same("empty", x.hook(1), -9);
        due.same("the first one is not", x.hook(0), 0);
        due.same("an empty one stays empty", x.follow(0, 1, 1), 300);
        due.same("empty", x.hook(1), -9);
    }

    private static void followAddress(Due due) {
        NamedMoves x = Stores.lightAndHeavy();
        x.link(1, 0, 0);
        x.link(1, 1, 1);
        due.same("address 0", x.follow(1, 0, 4), 0);
        due.same("hangs there", x.hook(4), 0);
        due.same("floor", x.follow(1, 1, 4), 200);
        due.same("hangs there", x.hook(4), 200);
        x.begin();
        due.same("half 1", x.follow(1, 0, 4), 100);
        due.same("hangs there", x.hook(4), 100);
    }

    private static void followThreeHundred(Due due) {
        NamedMoves x = Stores.lightAndHeavy();
        for (int other = 2; other < 8; other++) {
            due.same("light", x.follow(0, 0, other), 300);
            due.same("heavy", x.follow(1, 1, other), 300);
        }
        x.begin();
        due.same("in a move", x.follow(0, 0, 7), 300);
        due.same("nothing joins", x.count(6), 2);
    }

    private static void followWrong(Due due) {
        NamedMoves x = eightThings();
        for (int wrong : new int[] {Integer.MIN_VALUE, -1, 8, Integer.MAX_VALUE}) {
            due.same("hook " + wrong, x.follow(wrong, 0, 0), -1);
            due.same("name " + wrong, x.follow(0, wrong, 0), -1);
            due.same("other " + wrong, x.follow(0, 0, wrong), -1);
            due.same("all", x.follow(wrong, wrong, wrong), -1);
        }
        due.same("name 2", x.follow(0, 2, 0), -1);
        due.same("the hook stays", x.hook(0), 0);
    }

    private static void followOfAnEmptyHook(Due due) {
        NamedMoves x = Stores.lightAndHeavy();
        due.same("never hung", x.follow(2, 0, 0), -2);
        due.same("the other hook stays", x.hook(0), 0);
        x.drop(0);
        due.same("dropped", x.follow(0, 0, 1), -2);
        due.same("the other hook stays", x.hook(1), 200);
    }

    private static void drop(Due due) {
        NamedMoves x = Stores.lightAndHeavy();
        x.drop(1);
        due.same("empty", x.hook(1), -9);
        due.same("the other one is not", x.hook(0), 0);
        due.same("the copy stays", x.copy(200, 0), 1);
        due.same("as garbage", x.garbage(), 7);
        due.same("hangs there no more when it is read", x.begin(), 1);
    }

    private static void dropIsAnAction(Due due) {
        Told.action(due, "drop", Stores::midMove, x -> x.drop(1), 101);
        Told.action(due, "drop of an empty one", Stores::twins, x -> x.drop(7), 300);
    }

    private static void dropHooks(Due due) {
        for (int hook = 0; hook < 8; hook++) {
            NamedMoves x = eightThings();
            due.same("drop", x.drop(hook), 2 * hook);
            for (int other = 0; other < 8; other++) {
                due.same("this one alone", x.hook(other), other == hook ? -9 : 2 * other);
            }
        }
        due.same("too small", eightThings().drop(-1), -1);
        due.same("too large", eightThings().drop(8), -1);
    }

    private static void dropAddress(Due due) {
        NamedMoves x = Stores.lightAndHeavy();
        due.same("address 0", x.drop(0), 0);
        due.same("floor", x.drop(1), 200);
        due.same("half 1", Stores.midMove().drop(1), 101);
    }

    private static void dropEmpty(Due due) {
        NamedMoves x = Stores.lightAndHeavy();
        due.same("never hung", x.drop(7), 300);
        x.drop(0);
        due.same("dropped before", x.drop(0), 300);
        due.same("stays empty", x.hook(0), -9);
    }

    private static void dropWrong(Due due) {
        NamedMoves x = eightThings();
        for (int wrong : new int[] {Integer.MIN_VALUE, -2, -1, 8, 9, 300, Integer.MAX_VALUE}) {
            due.same("drop(" + wrong + ")", x.drop(wrong), -1);
        }
        due.same("all hang there", x.begin(), 8);
    }
}
