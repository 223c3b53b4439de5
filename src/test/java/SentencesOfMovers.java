/** Tests of promises 7 to 11: begin, carry, lose, mend, undo. */
final class SentencesOfMovers {
    private SentencesOfMovers() {
    }

    static void all(Sentences of) {
        of.under("Promise 7: begin");
        of.test("`int begin()`: Begins a move.", SentencesOfMovers::begin);
        of.test("This is an action.", SentencesOfMovers::beginIsAnAction);
        of.test("Returns the number of copies in the queue then;", SentencesOfMovers::beginQueue);
        of.test("ILLEGAL_STATE if a move goes on.", SentencesOfMovers::beginInAMove);
        carry(of);
        lose(of);
        mend(of);
        of.under("Promise 11: undo");
        of.test("`int undo()`: Removes the latest state from the history and restores it.", SentencesOfMovers::undo);
        of.test("Returns the number of states that are left in the history;", SentencesOfMovers::undoLeft);
        of.test("ILLEGAL_STATE if it is empty.", SentencesOfMovers::undoOfAnEmptyHistory);
    }

    private static void carry(Sentences of) {
        of.under("Promise 8: carry");
        of.test("`int carry(int steps)`: Lets the movers make steps;", SentencesOfMovers::carrySteps);
        of.test("they stop when the move ends.", SentencesOfMovers::carryStops);
        of.test("This is an action.", SentencesOfMovers::carryIsAnAction);
        of.test("- `steps`: 1 to 99", SentencesOfMovers::carryRange);
        of.test("Returns the number of steps that they made;", SentencesOfMovers::carryAnswer);
        of.test("INVALID_ARGUMENT if steps is out of range;", SentencesOfMovers::carryWrong);
        of.test("ILLEGAL_STATE if no move goes on.", SentencesOfMovers::carryWithoutAMove);
    }

    private static void lose(Sentences of) {
        of.under("Promise 9: lose");
        of.test("`int lose(int thing)`: Loses the note of a copy in the old half,", SentencesOfMovers::loseNote);
        of.test("the one with the smallest address of all copies of a thing there that have notes.",
                SentencesOfMovers::loseSmallest);
        of.test("This is an action.", SentencesOfMovers::loseIsAnAction);
        of.test("- `thing`: a thing", SentencesOfMovers::loseThings);
        of.test("Returns the address of this copy;", SentencesOfMovers::loseAddress);
        of.test("INVALID_ARGUMENT if there is no such thing;", SentencesOfMovers::loseOfNoThing);
        of.test("ILLEGAL_STATE if no move goes on,", SentencesOfMovers::loseWithoutAMove);
        of.test("or there is no such copy;", SentencesOfMovers::loseWithoutANote);
        of.test("CAPACITY_EXCEEDED if the present half would not have the room that is kept any more.",
                SentencesOfMovers::loseWithoutRoom);
    }

    private static void mend(Sentences of) {
        of.under("Promise 10: mend");
        of.test("`int mend(int thing)`: Mends the twins of a thing.", SentencesOfMovers::mendTwins);
        of.test("This is an action.", SentencesOfMovers::mendIsAnAction);
        of.test("- `thing`: a thing", SentencesOfMovers::mendThings);
        of.test("Returns the number of copies that are gone by it;", SentencesOfMovers::mendAnswer);
        of.test("INVALID_ARGUMENT if there is no such thing;", SentencesOfMovers::mendOfNoThing);
        of.test("ILLEGAL_STATE if a move goes on,", SentencesOfMovers::mendInAMove);
        of.test("or the thing has no twins.", SentencesOfMovers::mendWithoutTwins);
    }

    /** A ring of so many things of one place each, of which hook 0 names the last one. */
    private static NamedMoves ring(int things) {
        NamedMoves x = new NamedMoves();
        x.make(1, 0);
        x.link(0, 0, 0);
        x.follow(0, 0, 1);
        for (int thing = 1; thing < things; thing++) {
            x.make(1, 2);
            x.link(2, 0, 0);
            x.link(2, 1, 2);
            x.follow(2, 1, 0);
        }
        x.link(1, 0, 0);
        x.drop(1);
        x.drop(2);
        return x;
    }

    private static void begin(Due due) {
        NamedMoves x = Stores.lightAndHeavy();
        x.begin();
        due.same("a move goes on", x.count(2), 1);
        due.same("in the other half", x.count(3), 1);
        due.same("nothing has ended", x.count(9), 0);
        due.same("room is kept", x.count(7), 0);
        NamedMoves y = new NamedMoves();
        y.begin();
        due.same("an empty store's has ended", y.count(2), 0);
        due.same("in the other half", y.count(3), 1);
        due.same("it has ended", y.count(9), 1);
    }

    private static void beginIsAnAction(Due due) {
        Told.action(due, "begin", Stores::twins, NamedMoves::begin, 2);
        Told.action(due, "begin of a move that ends at once", NamedMoves::new, NamedMoves::begin, 0);
    }

    private static void beginQueue(Due due) {
        NamedMoves none = Stores.lightAndHeavy();
        none.drop(0);
        none.drop(1);
        due.same("no hook", none.begin(), 0);
        NamedMoves eight = new NamedMoves();
        for (int hook = 0; hook < 8; hook++) {
            due.same("make", eight.make(hook % 2 == 0 ? 8 : 6, hook), hook);
        }
        due.same("eight hooks", eight.begin(), 8);
        due.same("queue", eight.count(6), 8);
        NamedMoves same = Stores.lightAndHeavy();
        same.link(0, 0, 0);
        same.link(1, 0, 1);
        for (int hook = 2; hook < 8; hook++) {
            same.follow(hook % 2, 0, hook);
        }
        due.same("eight hooks at two things", same.begin(), 2);
        due.same("queue", same.count(6), 2);
        NamedMoves names = ring(40);
        due.same("names are not read yet", names.begin(), 1);
    }

    private static void beginInAMove(Due due) {
        NamedMoves x = ring(3);
        due.same("begin", x.begin(), 1);
        due.same("at its start", x.begin(), -2);
        x.carry(1);
        due.same("in its midst", x.begin(), -2);
        x.carry(1);
        due.same("before its last step", x.begin(), -2);
        x.carry(1);
        due.same("at its end", x.begin(), 1);
        due.same("half", x.count(3), 0);
    }

    private static void carrySteps(Due due) {
        for (int steps = 1; steps <= 6; steps++) {
            NamedMoves x = ring(7);
            x.begin();
            due.same("carry", x.carry(steps), steps);
            due.same("so many were carried", x.count(4), 64 - steps - 1);
            due.same("it goes on", x.count(2), 1);
            due.same("the rest", x.carry(99), 7 - steps);
        }
    }

    private static void carryStops(Due due) {
        for (int steps = 7; steps <= 99; steps += 23) {
            NamedMoves x = ring(7);
            x.begin();
            due.same("no more than there are", x.carry(steps), 7);
            due.same("no move goes on", x.count(2), 0);
            due.same("none was begun", x.count(9), 1);
            due.same("half", x.count(3), 1);
        }
    }

    private static void carryIsAnAction(Due due) {
        Told.action(due, "carry", Stores::midMove, x -> x.carry(1), 1);
        Told.action(due, "carry to the end", Stores::midMove, x -> x.carry(99), 2);
    }

    private static void carryRange(Due due) {
        for (int steps = 1; steps <= 99; steps++) {
            due.same("carry(" + steps + ")", Stores.midMove().carry(steps), Math.min(2, steps));
        }
        due.same("too small", Stores.midMove().carry(0), -1);
        due.same("too large", Stores.midMove().carry(100), -1);
    }

    private static void carryAnswer(Due due) {
        NamedMoves forty = ring(40);
        forty.begin();
        due.same("carry", forty.carry(39), 39);
        due.same("the last one", forty.carry(99), 1);
        NamedMoves x = Stores.manyTwinsBegun();
        due.same("1 of the light thing, 30 of the heavy ones, 30 of twins", Stores.stepsWithLosses(x), 61);
        due.same("31 copies", x.where(0, 30), 130);
        due.same("and no more", x.where(0, 31), -9);
        due.same("the next move", x.begin(), 2);
        due.same("all of them", x.carry(99), 61);
    }

    private static void carryWrong(Due due) {
        NamedMoves x = Stores.midMove();
        for (int wrong : new int[] {Integer.MIN_VALUE, -1, 0, 100, 101, Integer.MAX_VALUE}) {
            due.same("carry(" + wrong + ")", x.carry(wrong), -1);
        }
        due.same("no step was made", x.count(6), 2);
    }

    private static void carryWithoutAMove(Due due) {
        NamedMoves x = Stores.lightAndHeavy();
        due.same("before it", x.carry(1), -2);
        x.begin();
        x.carry(2);
        due.same("behind it", x.carry(1), -2);
        x.drop(0);
        x.drop(1);
        x.begin();
        due.same("behind one that ended as it began", x.carry(99), -2);
    }

    private static void loseNote(Due due) {
        NamedMoves x = Stores.midMove();
        due.same("lose", x.lose(0), 0);
        due.same("none now", x.copy(0, 2), -9);
        due.same("others stay", x.copy(1, 2), 101);
        due.same("others stay", x.copy(3, 2), 103);
        due.same("lost so far", x.count(8), 1);
        due.same("kept", x.count(7), 5);
        due.same("copies", x.count(1), 7);
        due.same("the hook stays", x.hook(0), 100);
        due.same("queue", x.count(6), 2);
    }

    private static void loseSmallest(Due due) {
        NamedMoves x = Stores.twins();
        x.begin();
        x.carry(1);
        due.same("only the first twin has a note", x.lose(2), 103);
        x.undo();
        x.carry(1);
        due.same("both have: the first one", x.lose(2), 103);
        due.same("then the other one", x.lose(2), 106);
        due.same("then none", x.lose(2), -2);
        NamedMoves y = Stores.twins();
        y.drop(0);
        y.begin();
        y.carry(1);
        due.same("only the second one has a note", y.lose(2), 106);
    }

    private static void loseIsAnAction(Due due) {
        Told.action(due, "lose", Stores::midMove, x -> x.lose(2), 3);
    }

    private static void loseThings(Due due) {
        int[] answers = {-1, 0, 1, 3, -2, -1};
        for (int thing = -1; thing <= 4; thing++) {
            due.same("lose(" + thing + ")", Stores.midMove().lose(thing), answers[thing + 1]);
        }
        NamedMoves x = ring(40);
        x.begin();
        x.carry(39);
        due.same("the first one", x.lose(0), 0);
        due.same("the last one", x.lose(39), 39);
        due.same("none behind it", x.lose(40), -1);
    }

    private static void loseAddress(Due due) {
        NamedMoves x = Stores.lightAndHeavy();
        x.begin();
        due.same("address 0", x.lose(0), 0);
        x.carry(99);
        x.begin();
        due.same("half 1", x.lose(0), 100);
    }

    private static void loseOfNoThing(Due due) {
        for (int wrong : new int[] {Integer.MIN_VALUE, -1, 4, 40, Integer.MAX_VALUE}) {
            due.same("lose(" + wrong + ")", Stores.midMove().lose(wrong), -1);
            due.same("without a move", Stores.twins().lose(wrong), -1);
        }
        due.same("in an empty store", new NamedMoves().lose(0), -1);
    }

    private static void loseWithoutAMove(Due due) {
        NamedMoves x = Stores.lightAndHeavy();
        due.same("before it", x.lose(0), -2);
        x.begin();
        x.carry(99);
        due.same("behind it", x.lose(0), -2);
        due.same("none lost", x.count(8), 0);
    }

    private static void loseWithoutANote(Due due) {
        NamedMoves x = Stores.midMove();
        due.same("not carried", x.lose(3), -2);
        x.make(1, 5);
        due.same("made in this move", x.lose(4), -2);
        x.make(7, 5);
        due.same("heavy", x.lose(5), -2);
        x.lose(2);
        due.same("lost", x.lose(2), -2);
        x.carry(99);
        x.begin();
        due.same("gone", x.lose(3), -2);
        due.same("heavy and read", x.lose(5), -2);
        due.same("lost so far", x.count(8), 1);
    }

    private static void loseWithoutRoom(Due due) {
        NamedMoves x = Stores.fullHalf();
        x.undo();
        x.make(3, 5);
        x.make(1, 6);
        x.drop(6);
        x.begin();
        due.same("free", x.count(4), 1);
        due.same("kept", x.count(7), 1);
        due.same("three more than nothing", x.lose(5), -3);
        due.same("it keeps its note", x.copy(60, 2), 160);
        due.same("kept", x.count(7), 1);
        due.same("none lost", x.count(8), 0);
        NamedMoves y = Stores.fullHalf();
        y.undo();
        y.begin();
        due.same("free", y.count(4), 4);
        due.same("twelve in four", y.lose(0), -3);
        due.same("make", y.make(1, 5), 5);
        NamedMoves z = Stores.midMove();
        z.setHeavy(13);
        for (int hook = 2; hook < 6; hook++) {
            z.make(12, hook);
        }
        z.make(3, 6);
        due.same("three more than is kept are free", z.count(4) - z.count(7), 3);
        due.same("one and two are lost: just so many", z.lose(0) + z.lose(1), 1);
        due.same("free is what is kept", z.count(4) - z.count(7), 0);
        due.same("no more", z.lose(2), -3);
    }

    private static void mendTwins(Due due) {
        NamedMoves x = Stores.twins();
        x.mend(2);
        due.same("the one with the smallest address stays", x.where(2, 0), 103);
        due.same("the other one is gone", x.where(2, 1), -9);
        due.same("its name", x.copy(100, 4), 103);
        due.same("the name of the other one", x.copy(101, 4), 103);
        due.same("no things with twins", x.count(10), 0);
    }

    private static void mendIsAnAction(Due due) {
        Told.action(due, "mend", Stores::twins, x -> x.mend(2), 1);
    }

    private static void mendThings(Due due) {
        int[] answers = {-1, -2, -2, 1, -2, -1};
        for (int thing = -1; thing <= 4; thing++) {
            due.same("mend(" + thing + ")", Stores.twins().mend(thing), answers[thing + 1]);
        }
    }

    private static void mendAnswer(Due due) {
        due.same("one", Stores.twins().mend(2), 1);
        NamedMoves x = Stores.manyTwins();
        due.same("copies", x.count(1), 61);
        due.same("all but one", x.mend(0), 30);
        due.same("copies", x.count(1), 31);
        due.same("one is left", x.where(0, 0), 100);
        due.same("and no more", x.where(0, 1), -9);
        due.same("places stay taken", x.count(4), 33);
        due.same("the next move carries it once", x.begin() + x.carry(99), 2 + 31);
        due.same("free", x.count(4), 63);
    }

    private static void mendOfNoThing(Due due) {
        for (int wrong : new int[] {Integer.MIN_VALUE, -1, 4, 40, Integer.MAX_VALUE}) {
            due.same("mend(" + wrong + ")", Stores.twins().mend(wrong), -1);
            due.same("in a move", Stores.midMove().mend(wrong), -1);
        }
        due.same("in an empty store", new NamedMoves().mend(0), -1);
    }

    private static void mendInAMove(Due due) {
        NamedMoves x = Stores.twins();
        x.begin();
        due.same("twins in the old half", x.mend(2), -2);
        x.carry(2);
        due.same("twins in the present one", x.count(10), 1);
        due.same("in the move", x.mend(2), -2);
        x.carry(99);
        due.same("behind it", x.mend(2), 1);
    }

    private static void mendWithoutTwins(Due due) {
        NamedMoves x = Stores.twins();
        due.same("one copy", x.mend(0), -2);
        due.same("no copy", x.mend(3), -2);
        x.make(7, 4);
        due.same("a heavy one", x.mend(4), -2);
        x.mend(2);
        due.same("mended", x.mend(2), -2);
        x.undo();
        due.same("not mended", x.mend(2), 1);
        NamedMoves y = Stores.midMove();
        y.drop(1);
        y.lose(2);
        y.carry(1);
        y.drop(0);
        y.carry(99);
        due.same("a lost note, but by thing 1 carried again", y.mend(2), 1);
        NamedMoves z = Stores.twoNamers();
        z.begin();
        z.lose(0);
        z.carry(99);
        due.same("a lost note, and not carried again", z.mend(0), -2);
    }

    private static void undo(Due due) {
        NamedMoves x = Stores.lightAndHeavy();
        String before = Told.state(x);
        x.begin();
        x.undo();
        due.holds("the state before the latest action is back", Told.state(x).equals(before));
        due.same("it is no longer in the history", x.count(12), 2);
        x.undo();
        due.same("the one before it", x.count(0), 1);
        due.same("nothing on the floor", x.count(5), 60);
        due.same("the hook is empty", x.hook(1), -9);
    }

    private static void undoLeft(Due due) {
        for (int actions = 1; actions <= 8; actions++) {
            NamedMoves x = new NamedMoves();
            for (int action = 0; action < actions; action++) {
                x.begin();
            }
            for (int left = Math.min(5, actions) - 1; left >= 0; left--) {
                due.same("undo", x.undo(), left);
            }
            due.same("moves", x.count(9), Math.max(0, actions - 5));
            due.same("empty", x.undo(), -2);
        }
    }

    private static void undoOfAnEmptyHistory(Due due) {
        NamedMoves x = new NamedMoves();
        due.same("a new one", x.undo(), -2);
        x.make(13, 0);
        x.append('b');
        x.count(0);
        due.same("nothing was recorded", x.undo(), -2);
        x.make(1, 0);
        due.same("one", x.undo(), 0);
        due.same("none", x.undo(), -2);
        due.same("and none", x.undo(), -2);
    }
}
