import java.util.function.Supplier;

/** Tests of the terms of undo and of errors. */
final class SentencesOfUndoAndErrors {
    private SentencesOfUndoAndErrors() {
    }

    static void all(Sentences of) {
        of.under("Undo");
        of.test("A history of at most 5 states is kept;", SentencesOfUndoAndErrors::atMostFive);
        of.test("a state is everything but the text and the history.", SentencesOfUndoAndErrors::everything);
        of.test("the text and the history", SentencesOfUndoAndErrors::butTheText);
        of.test("Every successful call of a method that is called an action records the state before it",
                SentencesOfUndoAndErrors::recorded);
        of.test("(also if nothing changes by it);", SentencesOfUndoAndErrors::nothingChanges);
        of.test("when a sixth one is recorded, the oldest one is dropped.", SentencesOfUndoAndErrors::aSixthOne);
        of.test("undo() removes the latest state from the history and restores it.",
                SentencesOfUndoAndErrors::latestFirst);
        of.under("Errors");
        of.test("A call that returns an error code changes nothing.", SentencesOfUndoAndErrors::refusedOwner);
        of.test("error code changes nothing", SentencesOfUndoAndErrors::refusedMovers);
        of.test("returns an error code", SentencesOfUndoAndErrors::refusedTexts);
        of.test("changes nothing.", SentencesOfUndoAndErrors::refusedLooking);
        of.test("If several error conditions apply, the method returns the one that its description lists first;",
                SentencesOfUndoAndErrors::severalErrors);
        of.test("NONE is no error, and it is returned only if no error condition applies.",
                SentencesOfUndoAndErrors::noneIsNoError);
        constants(of);
        of.noBoundary("Ahead of the calls `setHeavy`, `make`, `link`, `follow`, `drop` the interface says: ---- the"
                + " owner. Ahead of the calls `begin`, `carry`, `lose`, `mend`, `undo` the interface says: ---- the"
                + " movers. Ahead of the calls `append`, `clearText`, `run` the interface says: ---- texts.");
        of.test("Ahead of the calls `count`, `hook`, `copy`, `where` the interface says: ---- looking, by which"
                + " nothing is read.", SentencesOfUndoAndErrors::lookingReadsNothing);
        of.test("Ahead of the calls `named`, `garbage`, `stepsLeft`, `freeThen` the interface says: ---- what could"
                + " be, which changes nothing.", SentencesOfUndoAndErrors::forecastsChangeNothing);
    }

    private static void constants(Sentences of) {
        of.noBoundary("The constants:");
        of.test("`INVALID_ARGUMENT = -1`: An argument is out of range, or names something that does not exist.",
                SentencesOfUndoAndErrors::invalidArgument);
        of.test("`ILLEGAL_STATE = -2`: The call is not possible in the present state.",
                SentencesOfUndoAndErrors::illegalState);
        of.test("`CAPACITY_EXCEEDED = -3`: There is no room.", SentencesOfUndoAndErrors::capacityExceeded);
        of.test("`NONE = -9`: There is no such value.", SentencesOfUndoAndErrors::none);
    }

    private static void atMostFive(Due due) {
        NamedMoves x = new NamedMoves();
        int[] states = {1, 2, 3, 4, 5, 5, 5};
        for (int call = 0; call < states.length; call++) {
            due.same("make", x.make(1, call), call);
            due.same("states", x.count(12), states[call]);
        }
        for (int left = 4; left >= 0; left--) {
            due.same("undo", x.undo(), left);
            due.same("states", x.count(12), left);
        }
        due.same("no sixth one", x.undo(), -2);
        due.same("two things stay", x.count(0), 2);
        for (int call = 0; call < states.length; call++) {
            due.same("drop", x.drop(call), call < 2 ? call : 300);
            due.same("states once more", x.count(12), states[call]);
        }
    }

    private static void everything(Due due) {
        for (int left = 4; left >= 0; left--) {
            NamedMoves x = behindActions(due, 5);
            for (int states = 4; states >= left; states--) {
                due.same("undo", x.undo(), states);
            }
            due.holds("state " + left + " is back", Told.state(x).equals(Told.state(behindActions(due, left))));
        }
        NamedMoves y = Stores.midMove();
        String inTheMove = Told.state(y);
        y.lose(2);
        y.follow(1, 0, 3);
        y.carry(99);
        y.mend(2);
        y.setHeavy(3);
        for (int left = 4; left >= 0; left--) {
            due.same("undo", y.undo(), left);
        }
        due.holds("queue, notes, marks and counts are back", Told.state(y).equals(inTheMove));
        due.same("and go on as they did", y.carry(99), 2);
    }

    /** So many of five actions that change as many things as can be. */
    private static NamedMoves behindActions(Due due, int actions) {
        NamedMoves x = Stores.lightAndHeavy();
        due.same("setHeavy", actions > 0 ? x.setHeavy(8) : 6, 6);
        due.same("make", actions > 1 ? x.make(9, 2) : 2, 2);
        due.same("begin", actions > 2 ? x.begin() : 3, 3);
        due.same("lose", actions > 3 ? x.lose(0) : 0, 0);
        due.same("carry", actions > 4 ? x.carry(99) : 3, 3);
        return x;
    }

    private static void butTheText(Due due) {
        NamedMoves x = new NamedMoves();
        x.append('b');
        x.make(1, 0);
        x.append(';');
        x.make(1, 1);
        due.same("undo", x.undo(), 1);
        due.same("undo", x.undo(), 0);
        due.same("the text stays", x.count(13), 2);
        due.same("as it was", x.run(), 1);
        due.same("undo of the run", x.undo(), 0);
        due.same("the text is not back", x.count(13), 0);
        due.same("nor is the history: there is no redo", x.undo(), -2);
    }

    private static void recorded(Due due) {
        Told.action(due, "setHeavy", NamedMoves::new, x -> x.setHeavy(2), 6);
        Told.action(due, "make", NamedMoves::new, x -> x.make(12, 7), 0);
        Told.action(due, "link", Stores::lightAndHeavy, x -> x.link(0, 0, 1), 200);
        Told.action(due, "follow", Stores::midMove, x -> x.follow(1, 0, 1), 103);
        Told.action(due, "drop", Stores::lightAndHeavy, x -> x.drop(1), 200);
        Told.action(due, "begin", Stores::twoNamers, NamedMoves::begin, 2);
        Told.action(due, "carry", Stores::midMove, x -> x.carry(1), 1);
        Told.action(due, "lose", Stores::midMove, x -> x.lose(2), 3);
        Told.action(due, "mend", Stores::twins, x -> x.mend(2), 1);
        Told.action(due, "run", () -> Stores.withText(Stores.twins(), "d0;b;s1;"), NamedMoves::run, 3);
        Told.noAction(due, "append", Stores::twins, x -> x.append('b'));
        Told.noAction(due, "clearText", () -> Stores.withText(Stores.twins(), "b;"), NamedMoves::clearText);
        NamedMoves x = Stores.lightAndHeavy();
        due.same("undo records nothing", x.undo(), 1);
        due.same("so that the next one goes further back", x.undo(), 0);
        due.same("things", x.count(0), 0);
    }

    private static void nothingChanges(Due due) {
        Told.action(due, "setHeavy", NamedMoves::new, x -> x.setHeavy(6), 6);
        Told.action(due, "link", Stores::twoNamers, x -> x.link(0, 1, 7), 300);
        Told.action(due, "follow", Stores::twoNamers, x -> x.follow(0, 1, 7), 300);
        Told.action(due, "drop", NamedMoves::new, x -> x.drop(0), 300);
        Told.action(due, "run", NamedMoves::new, NamedMoves::run, 0);
        NamedMoves x = new NamedMoves();
        for (int call = 1; call <= 7; call++) {
            due.same("drop", x.drop(0), 300);
            due.same("states", x.count(12), Math.min(5, call));
        }
    }

    private static void aSixthOne(Due due) {
        for (int actions = 5; actions <= 20; actions++) {
            NamedMoves x = new NamedMoves();
            for (int call = 0; call < actions; call++) {
                x.make(1, call % 8);
            }
            for (int left = 4; left >= 0; left--) {
                due.same("undo", x.undo(), left);
                due.same("things", x.count(0), actions - 5 + left);
            }
            due.same("older ones were dropped", x.undo(), -2);
        }
        NamedMoves x = new NamedMoves();
        for (int turn = 1; turn <= 13; turn++) {
            x.make(1, 0);
            x.make(1, 1);
            due.same("two forth, one back", x.undo(), Math.min(4, turn));
            due.same("things", x.count(0), turn);
        }
    }

    private static void latestFirst(Due due) {
        NamedMoves x = Stores.lightAndHeavy();
        x.drop(0);
        x.drop(1);
        due.same("undo", x.undo(), 3);
        due.same("the latest one", x.hook(1), 200);
        due.same("not the one before", x.hook(0), -9);
        due.same("undo", x.undo(), 2);
        due.same("then that", x.hook(0), 0);
        x.drop(1);
        due.same("undo", x.undo(), 2);
        due.same("of the new one", x.hook(1), 200);
        due.same("undo", x.undo(), 1);
        due.same("of what was before both", x.count(0), 1);
    }

    private static void refusedOwner(Due due) {
        Supplier<NamedMoves> mid = Stores::midMove;
        Told.changesNothing(due, "setHeavy(1)", mid, x -> x.setHeavy(1), -1);
        Told.changesNothing(due, "setHeavy(14)", mid, x -> x.setHeavy(14), -1);
        Told.changesNothing(due, "make(0, 5)", mid, x -> x.make(0, 5), -1);
        Told.changesNothing(due, "make(13, 5)", mid, x -> x.make(13, 5), -1);
        Told.changesNothing(due, "make(1, 8)", mid, x -> x.make(1, 8), -1);
        Told.changesNothing(due, "make in a full half", Stores::fullHalf, x -> x.make(1, 0), -3);
        Told.changesNothing(due, "make on a full floor", Stores::fullFloor, x -> x.make(6, 0), -3);
        Told.changesNothing(due, "make of a 41st", Stores::fortyThings, x -> x.make(1, 7), -3);
        Told.changesNothing(due, "link(0, 2, 1)", mid, x -> x.link(0, 2, 1), -1);
        Told.changesNothing(due, "link(0, 0, 8)", mid, x -> x.link(0, 0, 8), -1);
        Told.changesNothing(due, "link of an empty hook", mid, x -> x.link(2, 0, 1), -2);
        Told.changesNothing(due, "follow(1, -1, 1)", mid, x -> x.follow(1, -1, 1), -1);
        Told.changesNothing(due, "follow(1, 0, 8)", mid, x -> x.follow(1, 0, 8), -1);
        Told.changesNothing(due, "follow of an empty hook", mid, x -> x.follow(2, 0, 1), -2);
        Told.changesNothing(due, "drop(8)", mid, x -> x.drop(8), -1);
        Told.changesNothing(due, "drop(-1)", mid, x -> x.drop(-1), -1);
    }

    private static void refusedMovers(Due due) {
        Supplier<NamedMoves> mid = Stores::midMove;
        Told.changesNothing(due, "begin in a move", mid, NamedMoves::begin, -2);
        Told.changesNothing(due, "carry(0)", mid, x -> x.carry(0), -1);
        Told.changesNothing(due, "carry(100)", mid, x -> x.carry(100), -1);
        Told.changesNothing(due, "carry without a move", Stores::twins, x -> x.carry(1), -2);
        Told.changesNothing(due, "lose(4)", mid, x -> x.lose(4), -1);
        Told.changesNothing(due, "lose without a note", mid, x -> x.lose(3), -2);
        Told.changesNothing(due, "lose without a move", Stores::twins, x -> x.lose(2), -2);
        Told.changesNothing(due, "lose without room", SentencesOfUndoAndErrors::fullMove, x -> x.lose(5), -3);
        Told.changesNothing(due, "mend(-1)", Stores::twins, x -> x.mend(-1), -1);
        Told.changesNothing(due, "mend without twins", Stores::twins, x -> x.mend(1), -2);
        Told.changesNothing(due, "mend in a move", SentencesOfUndoAndErrors::twinsInAMove, x -> x.mend(2), -2);
        Told.changesNothing(due, "undo without a state", SentencesOfUndoAndErrors::noHistory, NamedMoves::undo, -2);
    }

    private static NamedMoves fullMove() {
        NamedMoves x = Stores.fullHalf();
        x.begin();
        return x;
    }

    private static NamedMoves twinsInAMove() {
        NamedMoves x = Stores.midMove();
        x.lose(2);
        x.follow(1, 0, 4);
        return x;
    }

    private static NamedMoves noHistory() {
        NamedMoves x = Stores.withText(Stores.twins(), "d0;");
        for (int left = 4; left >= 0; left--) {
            x.undo();
        }
        return x;
    }

    private static void refusedTexts(Due due) {
        Supplier<NamedMoves> written = () -> Stores.withText(Stores.midMove(), "d0;");
        Told.changesNothing(due, "append(0)", written, x -> x.append(0), -1);
        Told.changesNothing(due, "append(256)", written, x -> x.append(256), -1);
        Told.changesNothing(due, "append of an 81st", () -> Stores.withText(Stores.twins(), "b;".repeat(40)),
                x -> x.append(';'), -3);
        Told.changesNothing(due, "run that fails", () -> Stores.withText(Stores.midMove(), "d0;d8;"),
                NamedMoves::run, -1003);
        Told.changesNothing(due, "run that ends too soon", () -> Stores.withText(Stores.midMove(), "s1"),
                NamedMoves::run, -1002);
    }

    private static void refusedLooking(Due due) {
        Supplier<NamedMoves> mid = Stores::midMove;
        Told.changesNothing(due, "count(14)", mid, x -> x.count(14), -1);
        Told.changesNothing(due, "hook(8)", mid, x -> x.hook(8), -1);
        Told.changesNothing(due, "copy(64, 0)", mid, x -> x.copy(64, 0), -1);
        Told.changesNothing(due, "copy(0, 6)", mid, x -> x.copy(0, 6), -1);
        Told.changesNothing(due, "where(4, 0)", mid, x -> x.where(4, 0), -1);
        Told.changesNothing(due, "where(0, -1)", mid, x -> x.where(0, -1), -1);
        Told.changesNothing(due, "named(-1)", mid, x -> x.named(-1), -1);
        Told.changesNothing(due, "stepsLeft without a move", Stores::twins, NamedMoves::stepsLeft, -2);
    }

    private static void severalErrors(Due due) {
        due.same("make: argument before forty things", Stores.fortyThings().make(13, 0), -1);
        due.same("make: argument before forty things", Stores.fortyThings().make(1, 8), -1);
        due.same("make: argument before the half", Stores.fullHalf().make(12, 8), -1);
        due.same("make: argument before the floor", Stores.fullFloor().make(12, -1), -1);
        NamedMoves x = new NamedMoves();
        due.same("link: name before empty", x.link(0, 2, 0), -1);
        due.same("link: other before empty", x.link(0, 0, 8), -1);
        due.same("follow: name before empty", x.follow(0, -1, 0), -1);
        due.same("follow: other before empty", x.follow(0, 0, -1), -1);
        due.same("carry: steps before no move", x.carry(0), -1);
        due.same("carry: steps before no move", x.carry(100), -1);
        due.same("lose: thing before no move", x.lose(0), -1);
        due.same("mend: thing before no twins", x.mend(0), -1);
        due.same("mend: thing before a move", Stores.midMove().mend(4), -1);
        due.same("lose: thing before no room", fullMove().lose(6), -1);
        NamedMoves y = Stores.fullHalf();
        y.drop(5);
        y.begin();
        due.same("lose: no room", y.lose(0), -3);
        due.same("lose: no note before no room", y.lose(5), -2);
        NamedMoves full = Stores.withText(new NamedMoves(), "b;".repeat(40));
        due.same("append: character before 80", full.append(0), -1);
        due.same("append: character before 80", full.append(256), -1);
    }

    private static void noneIsNoError(Due due) {
        NamedMoves x = Stores.lightAndHeavy();
        due.same("hook: out of range before empty", x.hook(8), -1);
        due.same("copy: what before no note", x.copy(0, 6), -1);
        due.same("copy: no copy before no note", x.copy(1, 2), -1);
        due.same("where: no thing before not so many", x.where(2, 7), -1);
        due.same("where: negative before none", x.where(0, -1), -1);
        x.drop(0);
        x.drop(1);
        x.begin();
        due.same("where: negative before gone", x.where(0, -1), -1);
        due.same("where: gone", x.where(0, 0), -9);
        Told.changesNothing(due, "an answer of NONE", Stores::midMove, y -> y.hook(7), -9);
        Told.changesNothing(due, "an answer of NONE", Stores::midMove, y -> y.copy(6, 2), -9);
        Told.changesNothing(due, "an answer of NONE", Stores::midMove, y -> y.where(3, 1), -9);
    }

    private static void invalidArgument(Due due) {
        NamedMoves x = Stores.midMove();
        due.same("INVALID_ARGUMENT", NamedMoves.INVALID_ARGUMENT, -1);
        due.same("out of range", x.drop(8), NamedMoves.INVALID_ARGUMENT);
        due.same("no such thing", x.where(4, 0), NamedMoves.INVALID_ARGUMENT);
        due.same("no such thing", x.lose(4), NamedMoves.INVALID_ARGUMENT);
        due.same("no such thing", x.mend(4), NamedMoves.INVALID_ARGUMENT);
        due.same("no such copy", x.copy(2, 0), NamedMoves.INVALID_ARGUMENT);
    }

    private static void illegalState(Due due) {
        due.same("ILLEGAL_STATE", NamedMoves.ILLEGAL_STATE, -2);
        due.same("begin", Stores.midMove().begin(), NamedMoves.ILLEGAL_STATE);
        due.same("stepsLeft", Stores.twins().stepsLeft(), NamedMoves.ILLEGAL_STATE);
    }

    private static void capacityExceeded(Due due) {
        due.same("CAPACITY_EXCEEDED", NamedMoves.CAPACITY_EXCEEDED, -3);
        due.same("half", Stores.fullHalf().make(1, 0), NamedMoves.CAPACITY_EXCEEDED);
        due.same("floor", Stores.fullFloor().make(12, 0), NamedMoves.CAPACITY_EXCEEDED);
        due.same("lose", fullMove().lose(5), NamedMoves.CAPACITY_EXCEEDED);
    }

    private static void none(Due due) {
        NamedMoves x = Stores.lightAndHeavy();
        due.same("NONE", NamedMoves.NONE, -9);
        due.same("hook", x.hook(7), NamedMoves.NONE);
        due.same("note", x.copy(0, 2), NamedMoves.NONE);
        due.same("name", x.copy(200, 5), NamedMoves.NONE);
        due.same("copy", x.where(0, 1), NamedMoves.NONE);
    }

    private static void lookingReadsNothing(Due due) {
        for (int what = -1; what <= 14; what++) {
            int number = what;
            int answer = Stores.midMove().count(what);
            Told.changesNothing(due, "count(" + what + ")", Stores::midMove, x -> x.count(number), answer);
        }
        Told.changesNothing(due, "hook", Stores::midMove, x -> x.hook(1), 101);
        Told.changesNothing(due, "copy of an old name", Stores::midMove, x -> x.copy(101, 4), 3);
        Told.changesNothing(due, "copy of an old one", Stores::midMove, x -> x.copy(6, 0), 3);
        Told.changesNothing(due, "where", Stores::midMove, x -> x.where(3, 0), 6);
        NamedMoves heavy = Stores.lightAndHeavy();
        heavy.link(0, 0, 1);
        heavy.drop(1);
        heavy.begin();
        due.same("look at a name", heavy.copy(100, 4), 200);
        due.same("look there", heavy.copy(200, 0), 1);
        due.same("it is not marked by it", heavy.copy(200, 3), 0);
    }

    private static void forecastsChangeNothing(Due due) {
        Told.changesNothing(due, "named", Stores::midMove, x -> x.named(1), 2);
        Told.changesNothing(due, "garbage", Stores::midMove, NamedMoves::garbage, 4);
        Told.changesNothing(due, "stepsLeft", Stores::midMove, NamedMoves::stepsLeft, 2);
        Told.changesNothing(due, "freeThen", Stores::midMove, NamedMoves::freeThen, 58);
        Told.changesNothing(due, "freeThen", Stores::twins, NamedMoves::freeThen, 55);
        Told.changesNothing(due, "freeThen", Stores::lightAndHeavy, NamedMoves::freeThen, 62);
    }
}
