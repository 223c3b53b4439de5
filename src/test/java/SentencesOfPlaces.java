/** Tests of "What it is" and of the terms of places and things. */
final class SentencesOfPlaces {
    private SentencesOfPlaces() {
    }

    static void all(Sentences of) {
        of.under("What it is");
        of.noBoundary("A store of two halves and a floor, from which movers carry all things that can still be"
                + " named into the other half, step by step, while the owner goes on naming them: names that"
                + " are addresses, notes at old places that say where a thing is now, heavy things that stay"
                + " and are marked, notes that get lost, twins that come of it and are mended, garbage,"
                + " forecasts, texts of errands, and undo.");
        of.test("An object is used for at most 512 calls after it has been made", SentencesOfPlaces::the512thCall);
        of.test("what later calls answer is free", SentencesOfPlaces::laterCalls);
        of.under("Terms");
        of.noBoundary("All numbers are whole.");
        of.under("Places and things");
        of.test("There are two halves, 0 and 1, of 64 places each,", SentencesOfPlaces::halves);
        of.test("and a floor of 60 places.", SentencesOfPlaces::floor);
        of.test("An address is 100 times a half plus a place (0 to 63),", SentencesOfPlaces::addressesOfHalves);
        of.test("or 200 plus a place of the floor (0 to 59).", SentencesOfPlaces::addressesOfTheFloor);
        of.test("A thing has a size of 1 to 12 places", SentencesOfPlaces::sizes);
        of.test("and two names, numbered 0 and 1.", SentencesOfPlaces::names);
        of.test("Things are numbered from 0 in the order in which they were made;", SentencesOfPlaces::numbers);
        of.test("at most 40 are made.", SentencesOfPlaces::atMostForty);
        of.test("A thing whose size is at least the heavy bound (2 to 13; at first 6) as it is made is heavy,"
                + " and lies on the floor;", SentencesOfPlaces::heavy);
        of.test("as it is made", SentencesOfPlaces::heavyAsItIsMade);
        of.test("any other one lies in a half.", SentencesOfPlaces::notHeavy);
        of.test("What lies somewhere is a copy of a thing; as long as no note gets lost, there is one copy of each"
                + " thing at most that is not carried.", SentencesOfPlaces::oneCopyThatIsNotCarried);
        of.test("The address of a copy is that of its first place.", SentencesOfPlaces::firstPlace);
        of.test("A copy is gone when it no longer lies anywhere.", SentencesOfPlaces::gone);
        of.test("The owner has 8 hooks, numbered from 0.", SentencesOfPlaces::hooks);
        of.test("Each hook, and each name of a copy, is an address, or empty (as all are at first).",
                SentencesOfPlaces::emptyAtFirst);
        of.test("In a half, things are laid one behind the other, from its first free place on;",
                SentencesOfPlaces::oneBehindTheOther);
        of.test("places become free only when the half is emptied.", SentencesOfPlaces::placesBecomeFree);
        of.test("On the floor a thing is laid at the smallest place from which on as many places as it needs are"
                + " free.", SentencesOfPlaces::smallestPlace);
    }

    private static void the512thCall(Due due) {
        NamedMoves moves = new NamedMoves();
        for (int call = 1; call < 512; call++) {
            due.same("begin, call " + call, moves.begin(), 0);
        }
        due.same("511 moves have ended, told by call 512", moves.count(9), 511);
        NamedMoves carried = new NamedMoves();
        for (int hook = 0; hook < 8; hook++) {
            carried.make(hook + 1, hook);
        }
        for (int move = 1; move <= 168; move++) {
            due.same("begin", carried.begin(), 8);
            due.same("carry", carried.carry(99), 8);
            due.same("count(9)", carried.count(9), move);
        }
        NamedMoves lost = new NamedMoves();
        for (int hook = 0; hook < 8; hook++) {
            lost.make(1, hook);
        }
        for (int move = 0; move < 50; move++) {
            due.same("begin", lost.begin(), 8);
            for (int thing = 0; thing < 8; thing++) {
                due.same("lose", lost.lose(thing), move % 2 * 100 + thing);
            }
            due.same("carry", lost.carry(99), 8);
        }
        due.same("notes lost, call 509", lost.count(8), 400);
        due.same("moves ended, call 510", lost.count(9), 50);
        due.same("states, call 511", lost.count(12), 5);
        due.same("undo, call 512", lost.undo(), 4);
    }

    private static void laterCalls(Due due) {
        NamedMoves x = new NamedMoves();
        for (int call = 0; call < 512; call++) {
            x.make(1 + call % 3, call % 8);
        }
        for (int call = 0; call < 3000; call++) {
            x.link(call % 8, call % 2, call % 5);
            x.follow(call % 7, call % 2, call % 8);
            x.begin();
            x.lose(call % 40);
            x.carry(1 + call % 3);
            x.mend(call % 40);
            x.append("m1,0;b;s1;".charAt(call % 10));
            x.run();
            x.garbage();
            x.freeThen();
            x.undo();
        }
        due.holds("nothing is thrown, whatever they answer", true);
    }

    private static void halves(Due due) {
        NamedMoves x = Stores.fullHalf();
        due.same("64 places are taken in half 0", x.count(4), 0);
        due.same("half", x.count(3), 0);
        due.same("a 65th place", x.make(1, 7), -3);
        NamedMoves y = new NamedMoves();
        y.begin();
        y.setHeavy(13);
        for (int hook = 0; hook < 5; hook++) {
            due.same("make(12)", y.make(12, hook), hook);
        }
        due.same("the half is the other one", y.count(3), 1);
        due.same("three of four", y.make(3, 5), 5);
        due.same("two in one place", y.make(2, 6), -3);
        due.same("one in one place", y.make(1, 6), 6);
        due.same("64 places are taken in half 1", y.count(4), 0);
        due.same("a 65th place", y.make(1, 7), -3);
    }

    private static void floor(Due due) {
        NamedMoves x = Stores.fullFloor();
        due.same("60 places are taken", x.count(5), 0);
        for (int size = 6; size <= 12; size++) {
            due.same("more", x.make(size, 7), -3);
        }
        due.same("setHeavy", x.setHeavy(2), 6);
        due.same("a 61st and a 62nd place", x.make(2, 7), -3);
        x.undo();
        x.undo();
        due.same("12 are free", x.count(5), 12);
        due.same("10 of 12", x.make(10, 4), 4);
        x.setHeavy(2);
        due.same("three in two places", x.make(3, 5), -3);
        due.same("two in two places", x.make(2, 5), 5);
        due.same("none is free", x.count(5), 0);
        due.same("two more", x.make(2, 6), -3);
    }

    private static void addressesOfHalves(Due due) {
        NamedMoves x = Stores.fullHalf();
        x.undo();
        x.make(3, 5);
        x.make(1, 6);
        for (int half = 0; half <= 100; half += 100) {
            due.same("place 0", x.hook(0), half);
            due.same("place 0", x.copy(half, 1), 12);
            due.same("place 63", x.hook(6), half + 63);
            due.same("place 63", x.copy(half + 63, 1), 1);
            for (int address = half + 64; address < half + 100; address++) {
                due.same("no place " + address, x.copy(address, 1), -1);
            }
            due.same("below", x.copy(half - 1, 1), -1);
            due.same("the move is begun once", x.begin(), half == 0 ? 7 : -2);
        }
    }

    private static void addressesOfTheFloor(Due due) {
        NamedMoves x = Stores.fullFloor();
        x.undo();
        x.make(10, 4);
        x.setHeavy(2);
        x.make(2, 5);
        due.same("place 0", x.hook(0), 200);
        due.same("place 0", x.copy(200, 1), 12);
        due.same("place 58, the last one where something fits", x.hook(5), 258);
        due.same("place 58", x.copy(258, 1), 2);
        due.same("place 59 is its second one", x.copy(259, 1), -1);
        due.same("place -1", x.copy(199, 1), -1);
        for (int address = 260; address <= 700; address++) {
            due.same("no place " + address, x.copy(address, 1), -1);
        }
    }

    private static void sizes(Due due) {
        for (int size = 1; size <= 12; size++) {
            NamedMoves x = new NamedMoves();
            due.same("make", x.make(size, 0), 0);
            due.same("size", x.copy(x.hook(0), 1), size);
            due.same("places", x.count(4) + x.count(5), 64 + 60 - size);
        }
        NamedMoves x = new NamedMoves();
        due.same("size 0", x.make(0, 0), -1);
        due.same("size 13", x.make(13, 0), -1);
        x.setHeavy(13);
        due.same("size 13 where nothing is heavy", x.make(13, 0), -1);
    }

    private static void names(Due due) {
        NamedMoves x = Stores.lightAndHeavy();
        for (int hook = 0; hook < 2; hook++) {
            int address = x.hook(hook);
            due.same("name 0", x.link(hook, 0, 0), 0);
            due.same("name 1 stays", x.copy(address, 5), -9);
            due.same("name 1", x.link(hook, 1, 1), 200);
            due.same("name 0 stays", x.copy(address, 4), 0);
            due.same("name -1", x.link(hook, -1, 0), -1);
            due.same("name 2", x.link(hook, 2, 0), -1);
            due.same("name -1", x.follow(hook, -1, 0), -1);
            due.same("name 2", x.follow(hook, 2, 0), -1);
            due.same("name 0", x.copy(address, 4), 0);
            due.same("name 1", x.copy(address, 5), 200);
        }
    }

    private static void numbers(Due due) {
        NamedMoves x = new NamedMoves();
        due.same("the first", x.make(1, 0), 0);
        due.same("a refused one takes no number", x.make(13, 0), -1);
        due.same("the second, heavy", x.make(6, 0), 1);
        due.same("the third", x.make(1, 0), 2);
        due.same("undo", x.undo(), 2);
        due.same("its number is free again", x.make(2, 1), 2);
        x.drop(0);
        x.drop(1);
        due.same("all are gone", x.begin(), 0);
        due.same("but their numbers are not free", x.make(1, 0), 3);
        due.same("as the copy tells", x.copy(x.hook(0), 0), 3);
    }

    private static void atMostForty(Due due) {
        NamedMoves x = Stores.fortyThings();
        due.same("forty", x.count(0), 40);
        due.same("the last one", x.copy(x.hook(0), 0), 39);
        due.same("a 41st", x.make(1, 0), -3);
        due.same("a heavy one", x.make(6, 0), -3);
        x.drop(0);
        due.same("all are gone", x.begin(), 0);
        due.same("a 41st all the same", x.make(1, 0), -3);
        x.begin();
        due.same("a heavy one all the same", x.make(12, 0), -3);
        NamedMoves y = Stores.fortyThings();
        y.undo();
        due.same("thirty-nine", y.count(0), 39);
        due.same("the fortieth", y.make(6, 0), 39);
        due.same("a 41st", y.make(6, 0), -3);
    }

    private static void heavy(Due due) {
        for (int size = 1; size <= 12; size++) {
            NamedMoves first = new NamedMoves();
            first.make(size, 0);
            due.same("at first, size " + size, first.hook(0), size >= 6 ? 200 : 0);
            for (int bound = 2; bound <= 13; bound++) {
                NamedMoves x = new NamedMoves();
                x.setHeavy(bound);
                x.make(size, 0);
                due.same("bound " + bound + ", size " + size, x.hook(0), size >= bound ? 200 : 0);
                due.same("free places of the half", x.count(4), size >= bound ? 64 : 64 - size);
                due.same("free places of the floor", x.count(5), size >= bound ? 60 - size : 60);
            }
        }
        due.same("bound 1", new NamedMoves().setHeavy(1), -1);
        due.same("bound 14", new NamedMoves().setHeavy(14), -1);
    }

    private static void heavyAsItIsMade(Due due) {
        NamedMoves x = new NamedMoves();
        x.make(5, 0);
        x.make(6, 1);
        x.setHeavy(2);
        x.begin();
        due.same("light stays light", x.hook(0), 100);
        x.carry(99);
        x.setHeavy(13);
        x.begin();
        due.same("heavy stays heavy", x.hook(1), 200);
        due.same("and is marked", x.copy(200, 3), 1);
        due.same("both are in the queue", x.carry(99), 2);
    }

    private static void notHeavy(Due due) {
        NamedMoves x = Stores.fullHalf();
        due.same("with the bound 13 all lie in the half", x.count(4), 0);
        due.same("and none on the floor", x.count(5), 60);
        due.same("also when the half has no room", x.make(12, 7), -3);
        NamedMoves y = new NamedMoves();
        y.setHeavy(2);
        due.same("with the bound 2 the smallest ones do", y.make(1, 0), 0);
        due.same("hook", y.hook(0), 0);
    }

    private static void oneCopyThatIsNotCarried(Due due) {
        NamedMoves x = Stores.twoNamers();
        x.follow(0, 0, 4);
        x.follow(0, 0, 5);
        for (int move = 0; move < 2; move++) {
            onlyOne(due, x);
            x.begin();
            onlyOne(due, x);
            for (int step = 0; step < 3; step++) {
                due.same("carry", x.carry(1), 1);
                onlyOne(due, x);
            }
        }
    }

    private static void onlyOne(Due due, NamedMoves x) {
        for (int thing = 0; thing < 4; thing++) {
            int notCarried = 0;
            for (int index = 0; index < 4 && x.where(thing, index) >= 0; index++) {
                notCarried += x.copy(x.where(thing, index), 2) == -9 ? 1 : 0;
            }
            due.holds("one copy of thing " + thing + " at most", notCarried <= 1);
        }
    }

    private static void firstPlace(Due due) {
        NamedMoves x = new NamedMoves();
        x.make(5, 0);
        x.make(3, 1);
        x.make(7, 2);
        int[] sizes = {5, 0, 0, 0, 0, 3, 0, 0, 0};
        for (int place = 0; place < sizes.length; place++) {
            due.same("place " + place, x.copy(place, 1), sizes[place] > 0 ? sizes[place] : -1);
        }
        due.same("floor", x.copy(200, 1), 7);
        for (int place = 1; place < 60; place++) {
            due.same("floor " + place, x.copy(200 + place, 1), -1);
        }
    }

    private static void gone(Due due) {
        NamedMoves x = Stores.lightAndHeavy();
        x.drop(0);
        x.drop(1);
        due.same("dropped, but not gone", x.count(1), 2);
        due.same("it lies there", x.copy(0, 0), 0);
        due.same("it lies there", x.where(1, 0), 200);
        x.begin();
        due.same("gone", x.count(1), 0);
        due.same("it lies there no longer", x.copy(0, 0), -1);
        due.same("nor there", x.copy(200, 0), -1);
        due.same("nowhere", x.where(0, 0), -9);
        due.same("nowhere", x.where(1, 0), -9);
        due.same("a new one in its place is another thing", x.make(7, 0), 2);
        due.same("which is told", x.copy(200, 0), 2);
    }

    private static void hooks(Due due) {
        NamedMoves x = new NamedMoves();
        for (int hook = 0; hook < 8; hook++) {
            due.same("make on hook " + hook, x.make(2, hook), hook);
        }
        for (int hook = 0; hook < 8; hook++) {
            due.same("each has its own", x.hook(hook), 2 * hook);
        }
        for (int hook = -1; hook <= 8; hook += 9) {
            due.same("make", x.make(1, hook), -1);
            due.same("link", x.link(hook, 0, 0), -1);
            due.same("link", x.link(0, 0, hook), -1);
            due.same("follow", x.follow(hook, 0, 0), -1);
            due.same("follow", x.follow(0, 0, hook), -1);
            due.same("drop", x.drop(hook), -1);
            due.same("hook", x.hook(hook), -1);
            due.same("named", x.named(hook), -1);
        }
    }

    private static void emptyAtFirst(Due due) {
        NamedMoves x = new NamedMoves();
        for (int hook = 0; hook < 8; hook++) {
            due.same("hook " + hook, x.hook(hook), -9);
        }
        x.make(1, 0);
        x.make(6, 1);
        due.same("address 0 is not empty", x.hook(0), 0);
        for (int name = 0; name < 2; name++) {
            due.same("name", x.copy(0, 4 + name), -9);
            due.same("name of a heavy one", x.copy(200, 4 + name), -9);
        }
        due.same("a name that is address 0", x.link(1, 0, 0), 0);
        due.same("is not empty", x.copy(200, 4), 0);
        x.drop(0);
        x.drop(1);
        x.begin();
        x.make(6, 0);
        due.same("names of a new one at an old place are empty", x.copy(200, 4), -9);
    }

    private static void oneBehindTheOther(Due due) {
        NamedMoves x = new NamedMoves();
        int[] sizes = {3, 5, 9, 1, 2};
        int[] addresses = {0, 3, 200, 8, 9};
        for (int hook = 0; hook < sizes.length; hook++) {
            x.make(sizes[hook], hook);
            due.same("laid", x.hook(hook), addresses[hook]);
        }
        x.drop(0);
        x.begin();
        due.same("carried to the first place", x.hook(1), 100);
        due.same("then behind it", x.hook(3), 105);
        due.same("then behind it", x.hook(4), 106);
        x.make(4, 7);
        due.same("made behind the carried ones", x.hook(7), 108);
        x.carry(99);
        x.make(4, 6);
        due.same("and so behind the move", x.hook(6), 112);
    }

    private static void placesBecomeFree(Due due) {
        NamedMoves x = Stores.fullHalf();
        for (int hook = 0; hook < 6; hook++) {
            x.drop(hook);
        }
        due.same("nothing is named", x.garbage(), 64);
        due.same("but no place is free", x.count(4), 0);
        due.same("for a single one", x.make(1, 0), -3);
        x.begin();
        due.same("the other half", x.count(4), 64);
        x.begin();
        due.same("the emptied half", x.count(4), 64);
        x.make(1, 0);
        due.same("from its first place on", x.hook(0), 0);
        NamedMoves y = Stores.twins();
        due.same("with twins", y.count(4), 55);
        y.mend(2);
        due.same("mending frees no place", y.count(4), 55);
    }

    private static void smallestPlace(Due due) {
        NamedMoves x = new NamedMoves();
        x.setHeavy(2);
        int[] sizes = {2, 2, 3, 2, 4, 2};
        for (int hook = 0; hook < sizes.length; hook++) {
            x.make(sizes[hook], hook);
        }
        due.same("one behind the other", x.hook(5), 213);
        x.drop(0);
        x.drop(2);
        x.drop(4);
        x.begin();
        x.make(2, 7);
        due.same("garbage takes its places until the move ends", x.hook(7), 215);
        x.undo();
        x.carry(99);
        due.same("free are 200 and 201, 204 to 206, 209 to 212, and from 215 on", x.count(5), 54);
        int[] then = {4, 3, 5, 2, 2};
        int[] addresses = {209, 204, 215, 200, 220};
        for (int index = 0; index < then.length; index++) {
            x.make(then[index], 7);
            due.same("size " + then[index], x.hook(7), addresses[index]);
        }
        due.same("to the end of the floor, 238 places: 12", x.make(12, 7) + x.make(12, 7) + x.make(12, 7), 36);
        due.same("the last one", x.hook(7), 246);
        due.same("three in two places", x.make(3, 7), -3);
        due.same("two in two places", x.make(2, 7), 14);
        due.same("there", x.hook(7), 258);
    }
}
