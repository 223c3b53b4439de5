/** Tests of promises 19 to 22: named, garbage, stepsLeft, freeThen. */
final class SentencesOfForecasts {
    private SentencesOfForecasts() {
    }

    static void all(Sentences of) {
        of.under("Promise 19: named");
        of.test("`int named(int hook)`: Counts the things that can be named from a hook: the one to whose copy its"
                + " address leads,", SentencesOfForecasts::namedOne);
        of.test("and those to which the names of such copies lead.", SentencesOfForecasts::namedByNames);
        of.test("An address leads to the copy there,", SentencesOfForecasts::namedOldCopies);
        of.test("but if that has a note, to the copy at the address of the note.",
                SentencesOfForecasts::namedByNotes);
        of.test("- `hook`: 0 to 7", SentencesOfForecasts::namedRange);
        of.test("Returns the number of different things;", SentencesOfForecasts::namedDifferent);
        of.test("INVALID_ARGUMENT if hook is out of range.", SentencesOfForecasts::namedWrong);
        of.under("Promise 20: garbage");
        of.test("`int garbage()`: Tells how many places of both halves and the floor",
                SentencesOfForecasts::garbageEverywhere);
        of.test("have copies to which no address leads that can be reached from any hook in this way,",
                SentencesOfForecasts::garbageNotReached);
        of.test("and that have no notes.", SentencesOfForecasts::garbageWithoutNotes);
        of.test("Returns the number of places.", SentencesOfForecasts::garbagePlaces);
        of.under("Promise 21: stepsLeft");
        of.test("`int stepsLeft()`: Tells how many steps the movers would still make until the move ends,",
                SentencesOfForecasts::stepsLeft);
        of.test("if nothing else is done.", SentencesOfForecasts::stepsLeftOtherwise);
        of.test("Returns the number;", SentencesOfForecasts::stepsLeftMost);
        of.test("ILLEGAL_STATE if no move goes on.", SentencesOfForecasts::stepsLeftWithoutAMove);
        of.under("Promise 22: freeThen");
        of.test("`int freeThen()`: Tells how many places of the present half would be free,",
                SentencesOfForecasts::freeThenLikeMoves);
        of.test("if the move that goes on (if one does) was ended by steps,", SentencesOfForecasts::freeThenInAMove);
        of.test("(if one does)", SentencesOfForecasts::freeThenWithoutAMove);
        of.test("and then one move was begun and ended by steps.", SentencesOfForecasts::freeThenNextMove);
        of.test("Returns the number of places.", SentencesOfForecasts::freeThenPlaces);
    }

    private static void namedOne(Due due) {
        NamedMoves x = Stores.lightAndHeavy();
        due.same("an empty hook", x.named(7), 0);
        due.same("light", x.named(0), 1);
        due.same("heavy", x.named(1), 1);
        x.drop(0);
        due.same("dropped", x.named(0), 0);
        x.begin();
        due.same("in a move", x.named(1), 1);
        due.same("an empty one", x.named(0), 0);
    }

    private static void namedByNames(Due due) {
        NamedMoves x = Stores.twoNamers();
        due.same("one step", x.named(0), 2);
        x.follow(0, 0, 2);
        due.same("the named one alone", x.named(2), 1);
        x.link(2, 1, 1);
        due.same("two steps", x.named(0), 3);
        x.link(1, 1, 0);
        due.same("a ring", x.named(0), 3);
        due.same("a ring", x.named(1), 3);
        due.same("a ring", x.named(2), 3);
        x.make(7, 4);
        x.link(0, 1, 4);
        due.same("the floor", x.named(2), 4);
        x.link(0, 1, 7);
        due.same("emptied", x.named(2), 3);
        NamedMoves chain = Stores.manyTwinsBegun();
        due.same("a chain of 31", chain.named(1), 31);
    }

    private static void namedOldCopies(Due due) {
        NamedMoves x = Stores.twoNamers();
        x.make(1, 5);
        x.follow(0, 0, 2);
        x.link(2, 1, 5);
        x.drop(2);
        x.drop(5);
        x.begin();
        due.same("two that were not carried", x.named(0), 3);
        x.carry(1);
        due.same("one of them", x.named(0), 3);
        x.lose(2);
        due.same("its old copy once more", x.named(1), 3);
        x.carry(99);
        due.same("behind the move", x.named(1), 3);
    }

    private static void namedByNotes(Due due) {
        NamedMoves x = Stores.midMove();
        due.same("the name of thing 1 is old", x.copy(101, 4), 3);
        x.follow(0, 0, 4);
        x.link(4, 1, 0);
        due.same("thing 2, and thing 0 by its new name", x.named(1), 3);
        x.lose(2);
        due.same("without the note, its old names", x.named(1), 2);
        due.same("not from thing 0", x.named(0), 2);
    }

    private static void namedRange(Due due) {
        NamedMoves x = new NamedMoves();
        for (int hook = 0; hook < 8; hook++) {
            x.make(1, hook);
            x.link(hook, 0, Math.max(0, hook - 1));
        }
        for (int hook = 0; hook < 8; hook++) {
            due.same("named(" + hook + ")", x.named(hook), hook + 1);
        }
        due.same("too small", x.named(-1), -1);
        due.same("too large", x.named(8), -1);
    }

    private static void namedDifferent(Due due) {
        NamedMoves x = Stores.twins();
        due.same("by one name", x.named(0), 2);
        x.link(0, 1, 1);
        due.same("both twins are one thing", x.named(0), 3);
        x.link(1, 1, 0);
        due.same("from either", x.named(1), 3);
        NamedMoves self = Stores.lightAndHeavy();
        self.link(0, 0, 0);
        self.link(0, 1, 0);
        due.same("itself three times", self.named(0), 1);
        NamedMoves y = Stores.manyTwins();
        due.same("31 twins", y.named(1), 31);
        due.same("one of them", y.named(0), 1);
    }

    private static void namedWrong(Due due) {
        for (int wrong : new int[] {Integer.MIN_VALUE, -2, -1, 8, 9, 300, Integer.MAX_VALUE}) {
            due.same("named(" + wrong + ")", new NamedMoves().named(wrong), -1);
            due.same("named(" + wrong + ")", Stores.midMove().named(wrong), -1);
        }
    }

    private static void garbageEverywhere(Due due) {
        NamedMoves x = Stores.lightAndHeavy();
        due.same("none", x.garbage(), 0);
        x.drop(0);
        due.same("in a half", x.garbage(), 2);
        x.drop(1);
        due.same("and on the floor", x.garbage(), 9);
        NamedMoves y = Stores.midMove();
        due.same("in the old half", y.garbage(), 4);
        y.make(5, 6);
        y.drop(6);
        due.same("and in the present one", y.garbage(), 9);
        y.make(12, 6);
        y.drop(6);
        due.same("and on the floor", y.garbage(), 21);
        y.carry(99);
        due.same("the old half is emptied", y.garbage(), 17);
    }

    private static void garbageNotReached(Due due) {
        NamedMoves x = Stores.twoNamers();
        due.same("thing 3", x.garbage(), 4);
        x.drop(0);
        due.same("thing 2 is reached from hook 1", x.garbage(), 5);
        x.follow(1, 0, 7);
        x.drop(1);
        due.same("and from hook 7", x.garbage(), 7);
        x.drop(7);
        due.same("from none", x.garbage(), 10);
        NamedMoves ring = Stores.lightAndHeavy();
        ring.link(0, 0, 1);
        ring.link(1, 1, 0);
        ring.drop(0);
        due.same("a ring that is hung", ring.garbage(), 0);
        ring.drop(1);
        due.same("a ring that is not", ring.garbage(), 9);
    }

    private static void garbageWithoutNotes(Due due) {
        NamedMoves x = Stores.twoNamers();
        x.begin();
        due.same("old copies with notes are none", x.garbage(), 4);
        x.lose(0);
        due.same("without its note", x.garbage(), 5);
        x.lose(1);
        due.same("both", x.garbage(), 7);
        x.drop(0);
        due.same("the new one is garbage, too", x.garbage(), 8);
        NamedMoves y = Stores.midMove();
        y.lose(2);
        due.same("without its note, but named by thing 1", y.garbage(), 4);
        y.link(1, 0, 7);
        due.same("no longer", y.garbage(), 7);
    }

    private static void garbagePlaces(Due due) {
        due.same("an empty store", new NamedMoves().garbage(), 0);
        NamedMoves x = Stores.fullHalf();
        x.setHeavy(12);
        for (int hook = 0; hook < 5; hook++) {
            x.make(12, hook);
        }
        due.same("a full half but for the last thing", x.garbage(), 60);
        for (int hook = 0; hook < 6; hook++) {
            x.drop(hook);
        }
        due.same("half and floor", x.garbage(), 124);
        x.begin();
        due.same("then none", x.garbage(), 0);
        NamedMoves y = Stores.twins();
        y.mend(2);
        due.same("the places of mended copies have none", y.garbage(), 0);
        NamedMoves z = Stores.twins();
        z.drop(0);
        due.same("a twin is garbage, too", z.garbage(), 4);
    }

    private static void stepsLeft(Due due) {
        NamedMoves x = Stores.twoNamers();
        x.begin();
        for (int left = 3; left >= 1; left--) {
            due.same("left", x.stepsLeft(), left);
            due.same("left, told again", x.stepsLeft(), left);
            due.same("carry", x.carry(1), 1);
        }
        due.same("no move", x.stepsLeft(), -2);
    }

    private static void stepsLeftOtherwise(Due due) {
        NamedMoves x = Stores.midMove();
        due.same("two", x.stepsLeft(), 2);
        x.lose(2);
        due.same("a twin comes", x.stepsLeft(), 3);
        x.link(1, 0, 7);
        due.same("unless its name is emptied", x.stepsLeft(), 2);
        x.make(6, 6);
        due.same("what is made makes none", x.stepsLeft(), 2);
        due.same("queue", x.count(6), 2);
        due.same("carry", x.carry(99), 2);
    }

    private static void stepsLeftMost(Due due) {
        NamedMoves x = Stores.manyTwinsBegun();
        due.same("31 things", x.stepsLeft(), 31);
        Stores.stepsWithLosses(x);
        x.begin();
        due.same("61 copies", x.stepsLeft(), 61);
        due.same("carry", x.carry(99), 61);
        NamedMoves one = Stores.lightAndHeavy();
        one.drop(1);
        one.begin();
        due.same("one", one.stepsLeft(), 1);
    }

    private static void stepsLeftWithoutAMove(Due due) {
        due.same("an empty store", new NamedMoves().stepsLeft(), -2);
        due.same("behind a move", Stores.twins().stepsLeft(), -2);
        NamedMoves x = Stores.lightAndHeavy();
        due.same("before one", x.stepsLeft(), -2);
        x.drop(0);
        x.drop(1);
        x.begin();
        due.same("behind one that ended as it began", x.stepsLeft(), -2);
    }

    /** The forecast, and what then comes of it. */
    private static void comesTrue(Due due, NamedMoves x, int free) {
        due.same("freeThen", x.freeThen(), free);
        if (x.count(2) == 1) {
            x.carry(99);
        }
        x.begin();
        if (x.count(2) == 1) {
            x.carry(99);
        }
        due.same("free then", x.count(4), free);
    }

    private static void freeThenLikeMoves(Due due) {
        comesTrue(due, new NamedMoves(), 64);
        comesTrue(due, Stores.lightAndHeavy(), 62);
        comesTrue(due, Stores.fullHalf(), 0);
        comesTrue(due, Stores.fullFloor(), 64);
        comesTrue(due, Stores.fortyThings(), 63);
        comesTrue(due, Stores.twoNamers(), 58);
        comesTrue(due, Stores.midMove(), 58);
        comesTrue(due, Stores.twins(), 55);
        comesTrue(due, Stores.manyTwinsBegun(), 63);
    }

    private static void freeThenInAMove(Due due) {
        NamedMoves x = Stores.midMove();
        x.make(5, 5);
        due.same("what is made stays", x.freeThen(), 53);
        x.drop(5);
        due.same("unless it is dropped", x.freeThen(), 58);
        x.lose(2);
        due.same("a twin comes", x.freeThen(), 55);
        x.drop(0);
        due.same("the one without its twin", x.freeThen(), 59);
        due.same("the move goes on", x.count(2), 1);
        due.same("as it did", x.carry(99), 3);
    }

    private static void freeThenWithoutAMove(Due due) {
        NamedMoves x = Stores.fullHalf();
        due.same("all hang", x.freeThen(), 0);
        for (int hook = 0; hook < 5; hook++) {
            x.drop(hook);
            due.same("one more is dropped", x.freeThen(), 12 * (hook + 1));
        }
        x.drop(5);
        due.same("all are", x.freeThen(), 64);
        due.same("now there is none", x.count(4), 0);
    }

    private static void freeThenNextMove(Due due) {
        NamedMoves x = Stores.twoNamers();
        x.begin();
        x.drop(1);
        due.same("what was carried in this move is not in the next", x.freeThen(), 60);
        x.carry(99);
        due.same("but it is there now", x.count(4), 58);
        due.same("the forecast stays", x.freeThen(), 60);
        due.same("no move was begun", x.count(9), 1);
        due.same("the half stays", x.count(3), 1);
        x.drop(0);
        due.same("a move that ends as it begins", x.freeThen(), 64);
    }

    private static void freeThenPlaces(Due due) {
        due.same("an empty store", new NamedMoves().freeThen(), 64);
        NamedMoves x = Stores.fullHalf();
        due.same("a full half", x.freeThen(), 0);
        x.begin();
        due.same("a full half in a move", x.freeThen(), 0);
        due.same("the floor doesn't count", Stores.fullFloor().freeThen(), 64);
        NamedMoves y = Stores.twins();
        y.mend(2);
        due.same("mended places become free then", y.freeThen(), 58);
    }
}
