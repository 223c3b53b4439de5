/** Stores in states that several tests begin with. */
final class Stores {
    private Stores() {
    }

    /** No place of half 0 is free: things 0 to 4 of 12 places hang on hooks 0 to 4, thing 5 of 4 on 5. */
    static NamedMoves fullHalf() {
        NamedMoves x = new NamedMoves();
        x.setHeavy(13);
        for (int hook = 0; hook < 5; hook++) {
            x.make(12, hook);
        }
        x.make(4, 5);
        return x;
    }

    /** No place of the floor is free: things 0 to 4 of 12 places hang on hooks 0 to 4. */
    static NamedMoves fullFloor() {
        NamedMoves x = new NamedMoves();
        for (int hook = 0; hook < 5; hook++) {
            x.make(12, hook);
        }
        return x;
    }

    /** All 40 things are made, of one place each; the latest one hangs on hook 0. */
    static NamedMoves fortyThings() {
        NamedMoves x = new NamedMoves();
        for (int thing = 0; thing < 40; thing++) {
            x.make(1, 0);
        }
        return x;
    }

    /** Two things, on hook 0 at address 0 and on hook 1 at 200, of 2 and 7 places. */
    static NamedMoves lightAndHeavy() {
        NamedMoves x = new NamedMoves();
        x.make(2, 0);
        x.make(7, 1);
        return x;
    }

    /**
     * Things 0 (1 place, hook 0, at 0) and 1 (2 places, hook 1, at 1) name thing 2 (3 places, at 3) by
     * their names 0; thing 3 (4 places, at 6) is garbage. Other hooks and names are empty.
     */
    static NamedMoves twoNamers() {
        NamedMoves x = new NamedMoves();
        x.make(1, 0);
        x.make(2, 1);
        x.make(3, 2);
        x.make(4, 3);
        x.link(0, 0, 2);
        x.link(1, 0, 2);
        x.drop(2);
        x.drop(3);
        return x;
    }

    /** The same in a move behind one step: 0 at 100, 1 at 101, 2 at 103; the last two are in the queue. */
    static NamedMoves midMove() {
        NamedMoves x = twoNamers();
        x.begin();
        x.carry(1);
        return x;
    }

    /** The same behind the move, in which a note got lost: 0 at 100 names 2 at 103, 1 at 101 names 2 at 106. */
    static NamedMoves twins() {
        NamedMoves x = midMove();
        x.lose(2);
        x.carry(99);
        return x;
    }

    /**
     * A move has begun, in which hook 0 names thing 0 (1 place) and hook 1 the last one of 30 heavy things
     * (2 places each); each of these names the one before it by name 0, and thing 0 by name 1.
     */
    static NamedMoves manyTwinsBegun() {
        NamedMoves x = new NamedMoves();
        x.setHeavy(2);
        x.make(1, 0);
        for (int number = 0; number < 30; number++) {
            x.make(2, 1);
            x.link(1, 0, 2);
            x.link(1, 1, 1);
            x.follow(1, 1, 2);
            x.link(1, 1, 0);
        }
        x.drop(2);
        x.begin();
        return x;
    }

    /**
     * The same behind the move, in which a note of thing 0 got lost before each step: 31 copies of it lie
     * at 100 to 130, 30 heavy things lie on the floor.
     */
    static NamedMoves manyTwins() {
        NamedMoves x = manyTwinsBegun();
        stepsWithLosses(x);
        return x;
    }

    /** Lets the movers make steps to the end, and loses a note of thing 0 before each; tells how many. */
    static int stepsWithLosses(NamedMoves x) {
        int steps = 0;
        while (x.count(2) == 1 && steps < 99) {
            x.lose(0);
            x.carry(1);
            steps++;
        }
        return steps;
    }

    static NamedMoves withText(NamedMoves x, String text) {
        x.clearText();
        for (int place = 0; place < text.length(); place++) {
            x.append(text.charAt(place));
        }
        return x;
    }
}
