/** Promises 7 to 11: begin, carry, lose, mend, undo. */
public final class MoversTest {
    private static final Due due = new Due("Movers");

    public static void main(String[] args) {
        begin();
        beginWithNothingNamed();
        beginManyTimes();
        carry();
        carryThroughTheFloor();
        moveEnds();
        lose();
        loseWithoutRoom();
        mend();
        mendThree();
        undo();
        undoAMove();
        undoBehindFailures();
        due.end();
    }

    private static void begin() {
        NamedMoves x = new NamedMoves();
        x.make(3, 5);
        x.make(2, 1);
        x.make(8, 3);
        x.make(4, 0);
        x.link(0, 0, 3);
        x.drop(0);
        x.follow(5, 0, 6);
        due.same("7 three hooks", x.begin(), 3);
        due.same("7 from hook 0 on", x.hook(1), 100);
        due.same("7 then", x.hook(5), 102);
        due.same("7 heavy stays", x.hook(3), 200);
        due.same("7 marked", x.copy(200, 3), 1);
        due.same("7 note", x.copy(0, 2), 102);
        due.same("7 note", x.copy(3, 2), 100);
        due.same("7 no note", x.copy(5, 2), -9);
        due.same("7 goes on", x.count(2), 1);
        due.same("7 present", x.count(3), 1);
        due.same("7 kept", x.count(7), 4);
        due.same("7 free", x.count(4), 59);
        due.same("7 again", x.begin(), -2);
        due.same("7 not recorded", x.count(12), 5);
        due.same("7 carry", x.carry(9), 3);
        due.same("7 ended", x.count(2), 0);
        due.same("7 back", x.begin(), 3);
        due.same("7 the other half", x.hook(1), 0);
        due.same("7 in the order of hooks", x.hook(5), 2);
    }

    private static void beginWithNothingNamed() {
        NamedMoves x = new NamedMoves();
        x.make(3, 0);
        x.make(9, 0);
        x.drop(0);
        due.same("7 nothing", x.begin(), 0);
        due.same("7 ended at once", x.count(2), 0);
        due.same("7 it counts", x.count(9), 1);
        due.same("7 all gone", x.count(1), 0);
        due.same("7 floor free", x.count(5), 60);
        due.same("7 half free", x.count(4), 64);
        due.same("7 half", x.count(3), 1);
        due.same("7 recorded", x.count(12), 4);
        due.same("7 two hooks on one", x.make(2, 0) + x.make(1, 1), 5);
        x.link(0, 0, 0);
        x.follow(0, 0, 1);
        due.same("7 read once, then by its note", x.begin(), 1);
        due.same("7 the same", x.hook(1), x.hook(0));
    }

    private static void beginManyTimes() {
        NamedMoves x = new NamedMoves();
        for (int hook = 0; hook < 8; hook++) {
            x.make(1 + hook, hook);
        }
        for (int move = 0; move < 60; move++) {
            due.same("7 all eight", x.begin(), 8);
            due.same("7 steps left", x.stepsLeft(), 8);
            due.same("7 all eight carried", x.carry(99), 8);
            due.same("7 copies", x.count(1), 8);
            due.same("7 moves", x.count(9), move + 1);
        }
    }

    private static void carry() {
        NamedMoves x = new NamedMoves();
        due.same("8 no move", x.carry(1), -2);
        due.same("8 wrong first", x.carry(0), -1);
        due.same("8 wrong first", x.carry(100), -1);
        x.make(1, 0);
        x.make(2, 1);
        x.make(3, 2);
        x.make(4, 3);
        x.link(0, 0, 3);
        x.link(0, 1, 2);
        x.link(1, 0, 2);
        x.link(3, 0, 0);
        x.drop(2);
        x.drop(3);
        due.same("8 begin", x.begin(), 2);
        due.same("8 wrong", x.carry(0), -1);
        due.same("8 wrong", x.carry(100), -1);
        due.same("8 one step", x.carry(1), 1);
        due.same("8 name 0 first", x.copy(100, 4), 103);
        due.same("8 name 1 then", x.copy(100, 5), 107);
        due.same("8 the next one not yet", x.copy(101, 4), 3);
        due.same("8 queue", x.count(6), 3);
        due.same("8 names as they were", x.copy(103, 4), 0);
        due.same("8 the second one", x.carry(1), 1);
        due.same("8 by the note", x.copy(101, 4), 107);
        due.same("8 nothing joined", x.count(6), 2);
        due.same("8 still going", x.count(2), 1);
        due.same("8 kept nothing", x.count(7), 0);
        due.same("8 only two are left", x.carry(99), 2);
        due.same("8 a ring", x.copy(103, 4), 100);
        due.same("8 ended", x.carry(99), -2);
        due.same("8 count(9)", x.count(9), 1);
        due.same("8 copies", x.count(1), 4);
    }

    private static void carryThroughTheFloor() {
        NamedMoves x = new NamedMoves();
        x.make(6, 0);
        x.make(6, 1);
        x.make(2, 2);
        x.make(7, 3);
        x.link(0, 0, 1);
        x.link(1, 0, 2);
        x.link(2, 0, 0);
        x.drop(1);
        x.drop(2);
        x.drop(3);
        due.same("8 begin", x.begin(), 1);
        due.same("8 step", x.carry(1), 1);
        due.same("8 marked", x.copy(206, 3), 1);
        due.same("8 not this one", x.copy(212, 3), 0);
        due.same("8 step", x.carry(1), 1);
        due.same("8 name on the floor", x.copy(206, 4), 100);
        due.same("8 last step", x.carry(2), 1);
        due.same("8 swept", x.copy(212, 0), -1);
        due.same("8 floor", x.count(5), 48);
        due.same("8 no mark", x.copy(206, 3), 0);
        due.same("8 again", x.begin(), 1);
        due.same("8 marked anew", x.carry(1), 1);
        due.same("8 marked", x.copy(206, 3), 1);
    }

    private static void moveEnds() {
        NamedMoves x = new NamedMoves();
        x.make(5, 0);
        x.make(5, 1);
        x.drop(0);
        x.begin();
        due.same("8 old copies lie there until the end", x.count(1), 3);
        x.carry(1);
        due.same("8 old half is empty", x.count(1), 1);
        due.same("8 no copy", x.copy(0, 0), -1);
        due.same("8 nor there", x.copy(5, 0), -1);
        due.same("8 where", x.where(0, 0), -9);
        x.begin();
        due.same("8 from its first place on", x.hook(1), 0);
    }

    /** Thing 0 names thing 2, and so does thing 1; hooks 0 and 1 are on these. */
    private static NamedMoves twoNamers() {
        NamedMoves x = new NamedMoves();
        x.make(1, 0);
        x.make(2, 1);
        x.make(3, 2);
        x.link(0, 0, 2);
        x.link(1, 0, 2);
        x.drop(2);
        return x;
    }

    private static void lose() {
        NamedMoves x = twoNamers();
        due.same("9 below", x.lose(-1), -1);
        due.same("9 not made", x.lose(3), -1);
        due.same("9 no move", x.lose(0), -2);
        x.begin();
        due.same("9 wrong first", x.lose(3), -1);
        due.same("9 no note yet", x.lose(2), -2);
        due.same("9 step", x.carry(1), 1);
        due.same("9 carried", x.copy(3, 2), 103);
        due.same("9 kept", x.count(7), 0);
        int recorded = x.count(12);
        due.same("9 lost", x.lose(2), 3);
        due.same("9 recorded", x.count(12), recorded);
        due.same("9 no note", x.copy(3, 2), -9);
        due.same("9 kept again", x.count(7), 3);
        due.same("9 lost so far", x.count(8), 1);
        due.same("9 only once", x.lose(2), -2);
        due.same("9 not counted", x.count(8), 1);
        due.same("9 step", x.carry(1), 1);
        due.same("9 carried again", x.copy(101, 4), 106);
        due.same("9 twins", x.count(10), 1);
        due.same("9 where", x.where(2, 0), 3);
        due.same("9 where", x.where(2, 1), 103);
        due.same("9 where", x.where(2, 2), 106);
        due.same("9 the first keeps its name", x.copy(100, 4), 103);
        due.same("9 note of the second", x.copy(3, 2), 106);
        due.same("9 both are in the queue", x.carry(99), 2);
        due.same("9 still lost so far", x.count(8), 1);
        due.same("9 begin", x.begin(), 2);
        due.same("9 both twins are carried", x.carry(2), 2);
        due.same("9 the smallest address with a note", x.lose(2), 103);
        due.same("9 the next one then", x.lose(2), 106);
        due.same("9 then none", x.lose(2), -2);
        due.same("9 in all", x.count(8), 3);
        due.same("9 undo", x.undo(), 4);
        due.same("9 not lost", x.count(8), 2);
        due.same("9 a note again", x.copy(106, 2), 6);
    }

    private static void loseWithoutRoom() {
        NamedMoves x = new NamedMoves();
        x.setHeavy(13);
        x.make(12, 0);
        x.make(12, 1);
        x.make(12, 2);
        x.make(12, 3);
        x.make(8, 4);
        x.begin();
        due.same("9 free", x.count(4), 8);
        due.same("9 too much", x.lose(0), -3);
        due.same("9 it keeps its note", x.copy(0, 2), 100);
        due.same("9 not counted", x.count(8), 0);
        due.same("9 just so much", x.lose(4), 48);
        due.same("9 no more", x.lose(4), -2);
        due.same("9 kept", x.count(7), 8);
        due.same("9 nothing can be made", x.make(1, 5), -3);
        due.same("9 nor lost", x.lose(1), -3);
    }

    private static void mend() {
        NamedMoves x = twoNamers();
        due.same("10 below", x.mend(-1), -1);
        due.same("10 not made", x.mend(3), -1);
        due.same("10 no twins", x.mend(2), -2);
        x.begin();
        x.carry(1);
        x.lose(2);
        x.carry(1);
        due.same("10 a move goes on", x.mend(2), -2);
        due.same("10 wrong first", x.mend(3), -1);
        due.same("10 follow", x.follow(1, 0, 5), 106);
        due.same("10 link twin to twin", x.link(5, 1, 5), 106);
        due.same("10 carry", x.carry(9), 2);
        due.same("10 count(10)", x.count(10), 1);
        due.same("10 not this one", x.mend(0), -2);
        int recorded = x.count(12);
        due.same("10 one gone", x.mend(2), 1);
        due.same("10 recorded", x.count(12), Math.min(5, recorded + 1));
        due.same("10 hook", x.hook(5), 103);
        due.same("10 name", x.copy(101, 4), 103);
        due.same("10 name stays", x.copy(100, 4), 103);
        due.same("10 names of the one that stays are its own", x.copy(103, 5), -9);
        due.same("10 gone", x.copy(106, 0), -1);
        due.same("10 no twins", x.count(10), 0);
        due.same("10 copies", x.count(1), 3);
        due.same("10 its places stay taken", x.count(4), 55);
        due.same("10 mended", x.mend(2), -2);
        due.same("10 laid behind", x.make(1, 6), 3);
        due.same("10 there", x.hook(6), 109);
        due.same("10 undo", x.undo() + x.undo(), 7);
        due.same("10 twins again", x.copy(106, 5), 106);
        due.same("10 hook", x.hook(5), 106);
    }

    private static void mendThree() {
        NamedMoves x = twoNamers();
        x.begin();
        x.follow(0, 0, 2);
        x.lose(2);
        x.carry(2);
        due.same("10 two", x.where(2, 2), 106);
        x.lose(2);
        due.same("10 old copy, without note now, is no twin", x.where(2, 0), 3);
        x.link(2, 0, 2);
        x.carry(99);
        x.begin();
        x.carry(1);
        due.same("10 hook", x.hook(2), 3);
        due.same("10 lose", x.lose(2), 103);
        x.carry(1);
        x.carry(99);
        due.same("10 where", x.where(2, 0), 3);
        due.same("10 where", x.where(2, 1), 6);
        due.same("10 where", x.where(2, 2), 9);
        due.same("10 things with twins", x.count(10), 1);
        due.same("10 two gone", x.mend(2), 2);
        due.same("10 one left", x.where(2, 1), -9);
        due.same("10 all name it", x.copy(0, 4), 3);
        due.same("10 all name it", x.copy(1, 4), 3);
        due.same("10 itself too", x.copy(3, 4), 3);
        due.same("10 taken", x.count(4), 52);
    }

    private static void undo() {
        NamedMoves x = new NamedMoves();
        due.same("11 empty", x.undo(), -2);
        for (int number = 0; number < 6; number++) {
            x.make(1, number);
        }
        due.same("11 five at most", x.count(12), 5);
        for (int left = 4; left >= 0; left--) {
            due.same("11 undo", x.undo(), left);
            due.same("11 things", x.count(0), left + 1);
            due.same("11 hook", x.hook(left + 1), -9);
            due.same("11 hook before", x.hook(left), left);
        }
        due.same("11 the oldest was dropped", x.undo(), -2);
        due.same("11 one stays", x.count(0), 1);
        x.append(65);
        x.make(1, 0);
        x.append(66);
        due.same("11 undo", x.undo(), 0);
        due.same("11 the text stays", x.count(13), 2);
        due.same("11 no redo", x.undo(), -2);
        due.same("11 make", x.make(2, 3), 1);
        due.same("11 anew", x.hook(3), 1);
    }

    private static void undoBehindFailures() {
        NamedMoves x = new NamedMoves();
        for (int number = 0; number < 6; number++) {
            x.make(1, number);
        }
        due.same("11 a call that fails", x.make(13, 0), -1);
        due.same("11 another one", x.carry(1), -2);
        x.append('q');
        due.same("11 a text that fails", x.run(), -1000);
        for (int left = 4; left >= 0; left--) {
            due.same("11 failures record nothing", x.undo(), left);
            due.same("11 nor do they spoil what is kept", x.count(0), left + 1);
        }
        due.same("11 an undo that fails", x.undo(), -2);
        due.same("11 changes nothing", x.count(0), 1);
    }

    private static void undoAMove() {
        NamedMoves x = twoNamers();
        x.begin();
        due.same("11 first", x.carry(1), 1);
        due.same("11 second", x.carry(99), 2);
        due.same("11 ended", x.count(9), 1);
        due.same("11 undo the end", x.undo(), 4);
        due.same("11 goes on", x.count(2), 1);
        due.same("11 not ended", x.count(9), 0);
        due.same("11 queue", x.count(6), 2);
        due.same("11 old copies", x.count(1), 6);
        due.same("11 undo a step", x.undo(), 3);
        due.same("11 queue", x.count(6), 2);
        due.same("11 name", x.copy(100, 4), 3);
        due.same("11 kept", x.count(7), 3);
        due.same("11 undo begin", x.undo(), 2);
        due.same("11 no move", x.count(2), 0);
        due.same("11 half", x.count(3), 0);
        due.same("11 free", x.count(4), 58);
        due.same("11 no note", x.copy(0, 2), -9);
        due.same("11 once more", x.begin(), 2);
        due.same("11 once more", x.carry(99), 3);
    }
}
