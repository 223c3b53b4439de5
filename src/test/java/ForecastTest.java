/** Promises 19 to 22: named, garbage, stepsLeft, freeThen. */
public final class ForecastTest {
    private static final Due due = new Due("Forecast");

    public static void main(String[] args) {
        named();
        namedDuringAMove();
        garbage();
        garbageDuringAMove();
        stepsLeft();
        freeThen();
        freeThenWithTwins();
        due.end();
    }

    private static void named() {
        NamedMoves x = new NamedMoves();
        due.same("19 below", x.named(-1), -1);
        due.same("19 above", x.named(8), -1);
        due.same("19 empty", x.named(0), 0);
        for (int thing = 0; thing < 6; thing++) {
            x.make(thing + 3, thing);
        }
        due.same("19 alone", x.named(0), 1);
        x.link(0, 0, 1);
        x.link(1, 1, 2);
        x.link(2, 0, 3);
        x.link(3, 1, 0);
        x.link(3, 0, 3);
        x.link(4, 0, 0);
        x.link(4, 1, 0);
        due.same("19 a ring", x.named(0), 4);
        due.same("19 a ring", x.named(2), 4);
        due.same("19 one way", x.named(4), 5);
        due.same("19 none", x.named(5), 1);
        due.same("19 empty", x.named(7), 0);
        for (int number = 6; number < 40; number++) {
            due.same("19 make", x.make(1, 6), number);
            due.same("19 link", x.link(6, 0, 5), x.hook(5));
            due.same("19 hang", x.follow(6, 0, 7), x.hook(5));
            x.link(6, 1, 6);
            x.link(6, 0, 5);
            x.drop(5);
            x.link(6, 1, 6);
            x.follow(6, 1, 5);
        }
        due.same("19 a chain of all but five", x.named(6), 35);
    }

    private static void namedDuringAMove() {
        NamedMoves x = Stores.twoNamers();
        x.begin();
        due.same("19 by an old address", x.named(0), 2);
        x.follow(0, 0, 2);
        due.same("19 link behind the carrying", x.link(2, 0, 1), 101);
        due.same("19 from 1 by the note", x.named(1), 2);
        due.same("19 from 0", x.named(0), 3);
        x.lose(2);
        due.same("19 from 1 to the old copy, that has no names", x.named(1), 2);
        x.carry(3);
        due.same("19 twins are one thing", x.where(2, 2), 106);
        x.link(0, 1, 1);
        due.same("19 both twins", x.named(0), 3);
        x.carry(99);
        due.same("19 both twins", x.named(0), 3);
    }

    private static void garbage() {
        NamedMoves x = Stores.twoNamers();
        due.same("20 one thing", x.garbage(), 4);
        x.drop(0);
        due.same("20 two", x.garbage(), 5);
        x.drop(1);
        due.same("20 all", x.garbage(), 10);
        x.make(12, 0);
        due.same("20 all but this", x.garbage(), 10);
        x.drop(0);
        due.same("20 floor", x.garbage(), 22);
        x.begin();
        due.same("20 none", x.garbage(), 0);
        x.make(2, 0);
        x.make(3, 1);
        x.link(0, 0, 1);
        x.link(1, 0, 0);
        x.drop(0);
        due.same("20 a ring is named", x.garbage(), 0);
        x.drop(1);
        due.same("20 a ring is garbage", x.garbage(), 5);
    }

    private static void garbageDuringAMove() {
        NamedMoves x = Stores.twoNamers();
        x.begin();
        due.same("20 what has a note is none", x.garbage(), 4);
        x.drop(0);
        due.same("20 the new copy is", x.garbage(), 5);
        x.follow(1, 0, 2);
        x.drop(2);
        due.same("20 named from 1", x.garbage(), 5);
        x.lose(2);
        due.same("20 the copy that lost its note", x.garbage(), 8);
        x.lose(1);
        due.same("20 and another one", x.garbage(), 10);
        due.same("20 left", x.count(7), 9);
        x.carry(99);
        due.same("20 the end", x.garbage(), 4);
        x.make(8, 5);
        x.drop(5);
        due.same("20 heavy", x.garbage(), 12);
    }

    private static void stepsLeft() {
        NamedMoves x = Stores.twoNamers();
        due.same("21 no move", x.stepsLeft(), -2);
        x.begin();
        due.same("21 three", x.stepsLeft(), 3);
        due.same("21 nothing changes", x.count(6), 2);
        due.same("21 history", x.count(12), 5);
        x.carry(1);
        due.same("21 two", x.stepsLeft(), 2);
        x.lose(2);
        due.same("21 a twin comes", x.stepsLeft(), 3);
        x.make(7, 5);
        due.same("21 what is made makes none", x.stepsLeft(), 3);
        x.carry(2);
        due.same("21 one", x.stepsLeft(), 1);
        x.carry(1);
        due.same("21 ended", x.stepsLeft(), -2);
        NamedMoves many = new NamedMoves();
        many.make(1, 0);
        for (int thing = 1; thing < 40; thing++) {
            many.make(1, 1);
            many.link(1, 0, 0);
            many.link(1, 1, 1);
            many.follow(1, 1, 0);
        }
        many.drop(1);
        due.same("21 begin", many.begin(), 1);
        due.same("21 forty", many.stepsLeft(), 40);
        due.same("21 carry", many.carry(39), 39);
        due.same("21 one", many.stepsLeft(), 1);
    }

    private static void freeThen() {
        NamedMoves x = Stores.twoNamers();
        due.same("22 without a move", x.freeThen(), 58);
        due.same("22 nothing changes", x.count(4), 54);
        due.same("22 no half is changed", x.count(3), 0);
        x.begin();
        due.same("22 within a move", x.freeThen(), 58);
        x.make(5, 4);
        due.same("22 what is made counts", x.freeThen(), 53);
        x.drop(4);
        due.same("22 but not as garbage", x.freeThen(), 58);
        x.drop(0);
        due.same("22 the movers carry it, the next ones don't", x.freeThen(), 59);
        x.make(9, 5);
        due.same("22 the floor is another place", x.freeThen(), 59);
        due.same("22 the move goes on", x.count(2), 1);
        due.same("22 history", x.count(12), 5);
        x.drop(1);
        due.same("22 all dropped", x.freeThen(), 64);
    }

    private static void freeThenWithTwins() {
        NamedMoves x = Stores.twoNamers();
        x.begin();
        x.carry(1);
        x.lose(2);
        due.same("22 both twins", x.freeThen(), 55);
        x.carry(9);
        due.same("22 free now", x.count(4), 55);
        due.same("22 both twins", x.freeThen(), 55);
        x.mend(2);
        due.same("22 taken now", x.count(4), 55);
        due.same("22 then no more", x.freeThen(), 58);
    }
}
