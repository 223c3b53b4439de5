/** Tests of the terms of moves and of lost notes. */
final class SentencesOfMoves {
    private SentencesOfMoves() {
    }

    static void all(Sentences of) {
        of.under("Moves");
        of.test("One half is the present one (at first the half 0).", SentencesOfMoves::presentHalf);
        of.test("When a move begins, the other half, which is empty, becomes the present one;",
                SentencesOfMoves::otherHalf);
        of.test("then all hooks are read, from hook 0 on.", SentencesOfMoves::hooksAreRead);
        of.test("While a move goes on, the half that is not the present one is the old half.",
                SentencesOfMoves::oldHalf);
        of.test("To read a hook or a name that is not empty means:", SentencesOfMoves::emptyIsNotRead);
        of.test("- If it is an address in the old half, and the copy there has a note, it becomes the address of"
                + " the note.", SentencesOfMoves::readByANote);
        of.test("- If it is an address in the old half, and the copy there has no note, this copy is carried:"
                + " a copy of the same thing, with the same size and names, is laid in the present half and joins"
                + " the end of the queue; the old copy gets a note with the address of the new one, and the hook"
                + " or name becomes this address.", SentencesOfMoves::readWithoutANote);
        of.test("is laid in the present half", SentencesOfMoves::carriedIntoAFullHalf);
        of.test("joins the end of the queue;", SentencesOfMoves::endOfTheQueue);
        of.test("- If it is an address on the floor, a move goes on, and the copy there is not marked, it is"
                + " marked and joins the end of the queue.", SentencesOfMoves::readOnTheFloor);
        of.test("a move goes on, and", SentencesOfMoves::readOnTheFloorWithoutAMove);
        of.test("- Otherwise nothing happens.", SentencesOfMoves::otherwiseNothing);
        of.test("A step of the movers takes the first copy out of the queue and reads its names 0 and 1.",
                SentencesOfMoves::step);
        of.test("The move ends as soon as the queue is empty behind a step", SentencesOfMoves::endBehindAStep);
        of.test("(or as it begins, behind the reading of hooks):", SentencesOfMoves::endAsItBegins);
        of.test("the old half is emptied, all copies in it are gone,", SentencesOfMoves::oldHalfIsEmptied);
        of.test("all copies on the floor that are not marked are gone,", SentencesOfMoves::floorIsSwept);
        of.test("and no copy is marked any more.", SentencesOfMoves::noMarksLeft);
        of.test("A copy that is made while a move goes on is laid in the present half,",
                SentencesOfMoves::madeInAMove);
        of.test("or is marked if it is heavy;", SentencesOfMoves::heavyMadeInAMove);
        of.test("it does not join the queue.", SentencesOfMoves::madeDoesNotJoin);
        of.test("The room that is kept while a move goes on is the sizes of all copies in the old half without"
                + " notes together.", SentencesOfMoves::roomKept);
        of.test("In the present half, what is made has to leave so many places free.", SentencesOfMoves::roomLeft);
        lostNotes(of);
    }

    private static void lostNotes(Sentences of) {
        of.under("Lost notes");
        of.test("The note of a copy in the old half can get lost; the copy has none then,", SentencesOfMoves::lost);
        of.test("and may be carried again.", SentencesOfMoves::carriedAgain);
        of.test("A thing with more than one copy outside the old half has twins.", SentencesOfMoves::hasTwins);
        of.test("While no move goes on, twins can be mended:", SentencesOfMoves::mendedWhileNoMoveGoesOn);
        of.test("all hooks and names that are addresses of any copy of the thing become the address of the one"
                + " with the smallest address,", SentencesOfMoves::mendedAddresses);
        of.test("and the others are gone (their places stay taken).", SentencesOfMoves::mendedPlaces);
    }

    private static void presentHalf(Due due) {
        NamedMoves x = new NamedMoves();
        due.same("present half", x.count(3), 0);
        x.make(1, 0);
        due.same("laid there", x.hook(0), 0);
    }

    private static void otherHalf(Due due) {
        NamedMoves x = Stores.fullHalf();
        x.make(1, 7);
        for (int move = 1; move <= 7; move++) {
            due.same("all that is there fits", x.begin(), 6);
            due.same("half", x.count(3), move % 2);
            due.same("laid from its first place on", x.hook(0), move % 2 * 100);
            due.same("full", x.count(4), 0);
            due.same("carry", x.carry(99), 6);
            due.same("half behind the move", x.count(3), move % 2);
        }
        NamedMoves y = Stores.fullHalf();
        for (int hook = 0; hook < 6; hook++) {
            y.drop(hook);
        }
        due.same("a move of nothing", y.begin(), 0);
        due.same("changes the half too", y.count(3), 1);
        due.same("which is empty", y.count(4), 64);
    }

    private static void hooksAreRead(Due due) {
        NamedMoves x = new NamedMoves();
        for (int hook = 7; hook >= 0; hook--) {
            x.make(hook == 3 ? 8 : hook % 4 + 1, hook);
        }
        due.same("all eight", x.begin(), 8);
        int[] addresses = {100, 101, 103, 200, 106, 107, 109, 112};
        for (int hook = 0; hook < 8; hook++) {
            due.same("hook " + hook, x.hook(hook), addresses[hook]);
        }
        NamedMoves y = new NamedMoves();
        y.make(1, 7);
        due.same("only the last hook", y.begin(), 1);
        due.same("hook 7", y.hook(7), 100);
        y.carry(1);
        y.drop(7);
        y.make(2, 0);
        due.same("only the first hook", y.begin(), 1);
        due.same("hook 0", y.hook(0), 0);
    }

    private static void oldHalf(Due due) {
        NamedMoves x = Stores.twoNamers();
        due.same("no move, no old half", x.lose(0), -2);
        x.begin();
        due.same("half 0 is old", x.lose(0), 0);
        due.same("kept there", x.count(7), 8);
        x.carry(99);
        due.same("no move, no old half", x.count(7), 0);
        due.same("no note in it", x.lose(0), -2);
        x.begin();
        due.same("half 1 is old", x.lose(0), 100);
        due.same("the present one is not", x.copy(x.hook(0), 2), -9);
    }

    private static void emptyIsNotRead(Due due) {
        NamedMoves x = new NamedMoves();
        due.same("empty hooks", x.begin(), 0);
        x.make(1, 0);
        due.same("one hook that is not", x.begin(), 1);
        due.same("link to an empty one", x.link(0, 0, 1), 300);
        due.same("nothing joined", x.count(6), 1);
        due.same("follow an empty name", x.follow(0, 1, 1), 300);
        due.same("nothing joined", x.count(6), 1);
        due.same("empty names", x.carry(99), 1);
        due.same("stay empty", x.copy(0, 4), -9);
        due.same("stay empty", x.copy(0, 5), -9);
        for (int hook = 1; hook < 8; hook++) {
            due.same("empty hooks stay empty", x.hook(hook), -9);
        }
    }

    private static void readByANote(Due due) {
        NamedMoves x = Stores.midMove();
        due.same("a note is there", x.copy(3, 2), 103);
        due.same("a name in the old half", x.copy(101, 4), 3);
        due.same("is read by the note", x.follow(1, 0, 5), 103);
        due.same("it becomes this address", x.copy(101, 4), 103);
        due.same("nothing joined", x.count(6), 2);
        due.same("nothing was laid", x.count(4), 58);
        NamedMoves y = Stores.lightAndHeavy();
        y.link(0, 0, 0);
        y.follow(0, 0, 7);
        due.same("two hooks at one address", y.begin(), 2);
        due.same("the second one by the note", y.hook(7), 100);
        due.same("one copy", y.count(4), 62);
    }

    private static void readWithoutANote(Due due) {
        NamedMoves x = new NamedMoves();
        x.make(3, 0);
        x.make(5, 1);
        x.link(0, 0, 1);
        x.link(0, 1, 0);
        x.link(1, 0, 0);
        x.drop(1);
        x.begin();
        due.same("laid in the present half", x.hook(0), 100);
        int[] told = {0, 3, -9, 0, 3, 0};
        for (int what = 0; what < 6; what++) {
            due.same("the same thing, size and names", x.copy(100, what), told[what]);
        }
        due.same("the note", x.copy(0, 2), 100);
        due.same("it joins the queue", x.count(6), 1);
        due.same("a name is carried, too", x.follow(0, 0, 1), 103);
        due.same("the name becomes this address", x.copy(100, 4), 103);
        due.same("the other name is not read", x.copy(100, 5), 0);
        due.same("size", x.copy(103, 1), 5);
        due.same("names as they were", x.copy(103, 4), 0);
        due.same("the note", x.copy(3, 2), 103);
        due.same("it joins the queue", x.count(6), 2);
        due.same("names of the old copy stay", x.copy(0, 4), 3);
        due.same("as does its size", x.copy(0, 1), 3);
        due.same("the places", x.count(4), 56);
    }

    private static void carriedIntoAFullHalf(Due due) {
        NamedMoves x = Stores.fullHalf();
        for (int hook = 4; hook >= 0; hook--) {
            x.link(hook, 1, hook + 1);
        }
        for (int hook = 1; hook <= 5; hook++) {
            x.drop(hook);
        }
        x.begin();
        for (int left = 5; left > 0; left--) {
            due.same("the rest fits just so", x.count(4) - x.count(7), 0);
            due.same("carry", x.carry(1), 1);
        }
        due.same("to the last place", x.count(4), 0);
        due.same("the last one", x.where(5, 1), 160);
        due.same("end", x.carry(99), 1);
        due.same("all six", x.count(1), 6);
    }

    private static void endOfTheQueue(Due due) {
        NamedMoves x = Stores.twoNamers();
        x.make(1, 5);
        x.make(6, 6);
        x.follow(0, 0, 2);
        x.link(2, 0, 5);
        x.link(0, 1, 6);
        x.drop(2);
        x.drop(5);
        x.drop(6);
        due.same("begin", x.begin(), 2);
        due.same("things 2 and 5 join", x.carry(1), 1);
        due.same("queue", x.count(6), 3);
        due.same("thing 1 is next", x.copy(101, 4), 3);
        due.same("step", x.carry(1), 1);
        due.same("its name was read", x.copy(101, 4), 103);
        due.same("that of thing 2 was not", x.copy(103, 4), 10);
        due.same("step", x.carry(1), 1);
        due.same("now it was", x.copy(103, 4), 106);
        due.same("then the heavy one and thing 4", x.carry(99), 2);
    }

    private static void readOnTheFloor(Due due) {
        NamedMoves x = Stores.lightAndHeavy();
        x.link(0, 0, 1);
        x.link(0, 1, 1);
        x.drop(1);
        due.same("begin", x.begin(), 1);
        due.same("not marked", x.copy(200, 3), 0);
        due.same("read", x.follow(0, 0, 1), 200);
        due.same("marked", x.copy(200, 3), 1);
        due.same("joined", x.count(6), 2);
        due.same("read again", x.follow(0, 1, 1), 200);
        due.same("joined once", x.count(6), 2);
        due.same("no note", x.copy(200, 2), -9);
        due.same("one copy", x.where(1, 1), -9);
        due.same("steps", x.carry(99), 2);
        NamedMoves y = Stores.lightAndHeavy();
        y.link(0, 0, 1);
        y.follow(0, 0, 7);
        due.same("two hooks on it", y.begin(), 2);
    }

    private static void readOnTheFloorWithoutAMove(Due due) {
        NamedMoves x = Stores.lightAndHeavy();
        due.same("read by link", x.link(1, 0, 1), 200);
        due.same("not marked", x.copy(200, 3), 0);
        due.same("read by follow", x.follow(1, 0, 2), 200);
        due.same("not marked", x.copy(200, 3), 0);
        due.same("no queue", x.count(6), 0);
        due.same("it is read in the move", x.begin(), 2);
    }

    private static void otherwiseNothing(Due due) {
        NamedMoves x = Stores.lightAndHeavy();
        due.same("no move: an address of a half", x.link(0, 0, 0), 0);
        due.same("stays", x.follow(0, 0, 3), 0);
        due.same("free", x.count(4), 62);
        x.begin();
        x.make(3, 4);
        x.make(8, 5);
        int queue = x.count(6);
        due.same("the present half", x.link(4, 0, 4), 102);
        due.same("stays", x.follow(4, 0, 6), 102);
        due.same("a marked one", x.link(4, 1, 5), 207);
        due.same("stays", x.follow(4, 1, 6), 207);
        due.same("nothing joins", x.count(6), queue);
        due.same("nothing is laid", x.count(4), 59);
    }

    private static void step(Due due) {
        NamedMoves x = Stores.twoNamers();
        x.make(1, 5);
        x.link(0, 1, 5);
        x.link(5, 0, 5);
        x.link(5, 1, 5);
        x.drop(5);
        due.same("begin", x.begin(), 2);
        due.same("step", x.carry(1), 1);
        due.same("name 0", x.copy(100, 4), 103);
        due.same("name 1 behind it", x.copy(100, 5), 106);
        due.same("one out, two in", x.count(6), 3);
        due.same("step", x.carry(1), 1);
        due.same("one out, none in", x.count(6), 2);
        due.same("step, of no names", x.carry(1), 1);
        due.same("step, of both names to itself", x.carry(1), 1);
        due.same("name 0", x.copy(106, 4), 106);
        due.same("name 1", x.copy(106, 5), 106);
        due.same("end", x.count(2), 0);
    }

    private static void endBehindAStep(Due due) {
        NamedMoves x = Stores.midMove();
        due.same("two in the queue", x.count(6), 2);
        x.carry(1);
        due.same("one in the queue", x.count(6), 1);
        due.same("the move goes on", x.count(2), 1);
        due.same("none has ended", x.count(9), 0);
        due.same("the last step", x.carry(1), 1);
        due.same("none in the queue", x.count(6), 0);
        due.same("no move goes on", x.count(2), 0);
        due.same("one has ended", x.count(9), 1);
        NamedMoves y = Stores.lightAndHeavy();
        y.link(0, 0, 1);
        y.drop(1);
        y.begin();
        due.same("a step behind which the queue is not empty", y.carry(1), 1);
        due.same("the move goes on", y.count(2), 1);
        due.same("the last one", y.carry(1), 1);
        due.same("no move goes on", y.count(2), 0);
    }

    private static void endAsItBegins(Due due) {
        NamedMoves x = Stores.lightAndHeavy();
        x.drop(0);
        x.drop(1);
        due.same("begin", x.begin(), 0);
        due.same("no move goes on", x.count(2), 0);
        due.same("it has ended", x.count(9), 1);
        due.same("half 0 is emptied", x.copy(0, 0), -1);
        due.same("the floor is swept", x.count(5), 60);
        due.same("no step is left", x.carry(1), -2);
        due.same("the next one may begin", x.begin(), 0);
        due.same("it has ended", x.count(9), 2);
    }

    private static void oldHalfIsEmptied(Due due) {
        NamedMoves x = Stores.midMove();
        due.same("with a note", x.copy(0, 0), 0);
        due.same("without one", x.copy(6, 0), 3);
        due.same("copies", x.count(1), 7);
        x.carry(99);
        for (int address = 0; address < 64; address++) {
            due.same("no copy at " + address, x.copy(address, 0), -1);
        }
        due.same("copies", x.count(1), 3);
        due.same("where(3, 0)", x.where(3, 0), -9);
        x.drop(0);
        x.drop(1);
        x.begin();
        due.same("64 places", x.count(4), 64);
    }

    private static void floorIsSwept(Due due) {
        NamedMoves x = new NamedMoves();
        for (int hook = 0; hook < 6; hook++) {
            x.make(10, hook);
        }
        x.link(1, 0, 3);
        for (int hook = 0; hook < 6; hook += hook == 0 ? 2 : 1) {
            x.drop(hook);
        }
        due.same("begin", x.begin(), 1);
        due.same("all lie there still", x.count(5), 0);
        due.same("carry", x.carry(99), 2);
        int[] things = {-1, 1, -1, 3, -1, -1};
        for (int index = 0; index < 6; index++) {
            due.same("floor " + index, x.copy(200 + 10 * index, 0), things[index]);
        }
        due.same("free", x.count(5), 40);
        due.same("copies", x.count(1), 2);
        x.drop(1);
        due.same("the next move", x.begin(), 0);
        due.same("sweeps them, too", x.count(5), 60);
    }

    private static void noMarksLeft(Due due) {
        NamedMoves x = Stores.lightAndHeavy();
        x.begin();
        x.make(8, 2);
        due.same("marked by reading", x.copy(200, 3), 1);
        due.same("marked by making", x.copy(207, 3), 1);
        x.carry(99);
        due.same("no more", x.copy(200, 3), 0);
        due.same("no more", x.copy(207, 3), 0);
        due.same("both are marked anew and join", x.begin(), 3);
        x.carry(99);
        x.drop(2);
        due.same("what is not is gone then", x.begin() * 10 + x.carry(99), 22);
        due.same("gone", x.copy(207, 0), -1);
    }

    private static void madeInAMove(Due due) {
        NamedMoves x = Stores.midMove();
        x.make(5, 4);
        due.same("behind what is carried", x.hook(4), 106);
        due.same("not marked", x.copy(106, 3), 0);
        x.drop(4);
        x.carry(99);
        due.same("it stays in this move, though not named", x.where(4, 0), 106);
        due.same("and takes its places", x.count(4), 53);
        x.begin();
        x.carry(99);
        due.same("not in the next one", x.where(4, 0), -9);
    }

    private static void heavyMadeInAMove(Due due) {
        NamedMoves x = Stores.midMove();
        x.make(6, 4);
        due.same("marked", x.copy(200, 3), 1);
        due.same("no place of the half", x.count(4), 58);
        x.drop(4);
        x.carry(99);
        due.same("it stays in this move, though not named", x.where(4, 0), 200);
        due.same("not marked any more", x.copy(200, 3), 0);
        x.make(6, 4);
        due.same("not marked without a move", x.copy(206, 3), 0);
        x.begin();
        x.carry(99);
        due.same("it doesn't stay in the next one", x.where(4, 0), -9);
        due.same("the named one does", x.where(5, 0), 206);
    }

    private static void madeDoesNotJoin(Due due) {
        NamedMoves x = Stores.midMove();
        due.same("queue", x.count(6), 2);
        x.make(1, 4);
        due.same("a light one", x.count(6), 2);
        x.make(9, 5);
        due.same("a heavy one", x.count(6), 2);
        x.link(4, 0, 5);
        x.link(5, 0, 4);
        x.follow(4, 0, 6);
        due.same("nor when they are named", x.count(6), 2);
        due.same("steps", x.stepsLeft(), 2);
        due.same("steps", x.carry(99), 2);
        due.same("names stay", x.copy(200, 4), 106);
        due.same("names stay", x.copy(106, 4), 200);
    }

    private static void roomKept(Due due) {
        NamedMoves x = Stores.twoNamers();
        due.same("no move", x.count(7), 0);
        x.begin();
        due.same("things 2 and 3", x.count(7), 7);
        x.make(5, 4);
        x.make(9, 5);
        due.same("nothing of the present half or the floor", x.count(7), 7);
        x.carry(1);
        due.same("thing 3 alone", x.count(7), 4);
        x.lose(2);
        due.same("thing 2 again", x.count(7), 7);
        x.lose(0);
        due.same("thing 0 again", x.count(7), 8);
        x.carry(1);
        due.same("thing 2 was carried again", x.count(7), 5);
        x.carry(99);
        due.same("no move", x.count(7), 0);
    }

    private static void roomLeft(Due due) {
        NamedMoves x = Stores.twoNamers();
        x.setHeavy(13);
        x.begin();
        for (int hook = 2; hook < 6; hook++) {
            x.make(12, hook);
        }
        due.same("free", x.count(4), 13);
        due.same("kept", x.count(7), 7);
        due.same("one place too many", x.make(7, 6), -3);
        due.same("none was taken", x.count(4), 13);
        due.same("just so many", x.make(6, 6), 8);
        due.same("free is what is kept", x.count(4), 7);
        due.same("a single place", x.make(1, 7), -3);
        due.same("what is carried may take it", x.carry(1), 1);
        due.same("thing 2 was", x.where(2, 1), 157);
        due.same("but what is made may not", x.make(1, 7), -3);
        x.carry(99);
        due.same("thing 3 was not carried", x.count(4), 4);
        due.same("behind the move no room is kept", x.make(4, 7), 9);
        due.same("to the last place", x.count(4), 0);
        due.same("but no more", x.make(1, 7), -3);
        x.setHeavy(6);
        due.same("the floor keeps no room", x.make(12, 7), 10);
    }

    private static void lost(Due due) {
        NamedMoves x = Stores.midMove();
        due.same("a note", x.copy(3, 2), 103);
        due.same("is lost", x.lose(2), 3);
        due.same("none", x.copy(3, 2), -9);
        due.same("the copy stays", x.copy(3, 0), 2);
        due.same("as does the other one", x.copy(103, 0), 2);
        due.same("none can be lost", x.lose(2), -2);
        due.same("a copy that was not carried has none to lose", x.lose(3), -2);
    }

    private static void carriedAgain(Due due) {
        NamedMoves x = Stores.midMove();
        x.lose(2);
        due.same("by the name of thing 1", x.follow(1, 0, 5), 106);
        due.same("a note again", x.copy(3, 2), 106);
        due.same("the name of thing 0 stays", x.copy(100, 4), 103);
        due.same("lost again", x.lose(2), 3);
        due.same("steps", x.carry(99), 3);
        due.same("not carried again, as no name was left", x.where(2, 2), -9);
        NamedMoves y = Stores.twoNamers();
        y.begin();
        y.lose(0);
        due.same("no hook is read again", y.carry(99), 3);
        due.same("one copy", y.where(0, 1), -9);
    }

    private static void hasTwins(Due due) {
        NamedMoves x = Stores.midMove();
        x.lose(2);
        due.same("one in the old half, one outside", x.count(10), 0);
        x.carry(1);
        due.same("two outside, while the move goes on", x.count(10), 1);
        x.carry(99);
        due.same("two outside, behind it", x.count(10), 1);
        x.begin();
        due.same("two in the old half", x.count(10), 0);
        x.carry(1);
        due.same("one of them carried", x.count(10), 0);
        due.same("copies", x.where(2, 3), -9);
        x.carry(1);
        due.same("both carried", x.count(10), 1);
        due.same("copies", x.where(2, 3), 106);
        x.carry(99);
        x.drop(1);
        x.begin();
        x.carry(99);
        due.same("one twin is garbage", x.count(10), 0);
        due.same("one of two at address 0", twinAtAddressZero().count(10), 1);
        due.same("it stays", twinAtAddressZero().mend(0), 1);
    }

    /** Thing 0 on hook 0 has copies at 0 and 2, and thing 1 at 1, on hook 1, names the second one. */
    private static NamedMoves twinAtAddressZero() {
        NamedMoves x = new NamedMoves();
        x.begin();
        x.make(1, 0);
        x.make(1, 1);
        x.link(1, 0, 0);
        x.begin();
        x.lose(0);
        x.carry(99);
        return x;
    }

    private static void mendedWhileNoMoveGoesOn(Due due) {
        NamedMoves x = Stores.midMove();
        x.lose(2);
        x.carry(1);
        due.same("a move goes on", x.mend(2), -2);
        due.same("twins stay", x.count(10), 1);
        x.carry(99);
        due.same("no move goes on", x.mend(2), 1);
        due.same("no twins", x.count(10), 0);
        NamedMoves y = Stores.twins();
        y.begin();
        due.same("a move goes on", y.mend(2), -2);
    }

    private static void mendedAddresses(Due due) {
        NamedMoves x = Stores.twins();
        x.make(7, 4);
        x.follow(1, 0, 5);
        x.follow(0, 0, 6);
        x.link(4, 0, 5);
        x.link(4, 1, 6);
        x.link(6, 1, 5);
        x.link(6, 0, 0);
        x.drop(1);
        x.make(1, 7);
        due.same("mend", x.mend(2), 1);
        int[] hooks = {100, -9, -9, -9, 200, 103, 103, 109};
        for (int hook = 0; hook < 8; hook++) {
            due.same("hook " + hook, x.hook(hook), hooks[hook]);
        }
        due.same("name of a heavy one", x.copy(200, 4), 103);
        due.same("name of a heavy one", x.copy(200, 5), 103);
        due.same("name", x.copy(100, 4), 103);
        due.same("name of garbage", x.copy(101, 4), 103);
        due.same("its own name", x.copy(103, 5), 103);
        due.same("names of other things stay", x.copy(103, 4), 100);
        due.same("empty names stay", x.copy(101, 5), -9);
        NamedMoves y = Stores.twins();
        y.begin();
        y.carry(99);
        y.follow(1, 0, 7);
        y.link(0, 0, 7);
        y.follow(1, 0, 0);
        due.same("mend in half 0", y.mend(2), 1);
        due.same("the first hook", y.hook(0), 3);
        due.same("the last hook", y.hook(7), 3);
        due.same("the first name of the copy at address 0", y.copy(0, 4), 3);
        due.same("the one of thing 1", y.copy(1, 4), 3);
    }

    private static void mendedPlaces(Due due) {
        NamedMoves x = Stores.twins();
        due.same("mend", x.mend(2), 1);
        due.same("gone", x.copy(106, 0), -1);
        due.same("one is left", x.where(2, 0), 103);
        due.same("and no other", x.where(2, 1), -9);
        due.same("copies", x.count(1), 3);
        due.same("places stay taken", x.count(4), 55);
        due.same("though no copy has them", x.garbage(), 0);
        x.make(3, 4);
        due.same("the next one is laid behind them", x.hook(4), 109);
        x.begin();
        due.same("thing 2 alone is kept", x.count(7), 3);
        x.carry(99);
        due.same("free behind the next move", x.count(4), 55);
        due.same("copies", x.count(1), 4);
    }
}
