/** The terms TO PUT and TO MAKE. */
final class BoundaryMaking {
    private static final String PUT = "Promise 10 (Terms)";
    private static final String MAKE = "Promise 3 (Terms)";

    private BoundaryMaking() {
    }

    static void all() {
        putIntoTheLastCar();
        putIntoTheLastCarOnly();
        putIntoTheLeastFreeCar();
        putWithNoFreeCar();
        putWithNoFreeCarButTheLast();
        putBehindWhatWentElsewhere();
        makeStepsWithOneFreeCar();
        makeStepsTillTheRoomIsThere();
        makeStepsTillTwoAreFree();
        makeStepsAtMostAsManyAsCars();
        makeStopsOneStepTooEarly();
        cannotBeMade();
        madeInTheLastCar();
        madeWithoutATrain();
        madeByLength();
        madeWithMoreCarsThanLength();
    }

    private static void place(Run yard, String what, int register, int due) {
        Check.equal(what, yard.thing(register, 1), due);
    }

    /** Thing 1, in register 0, is in the full car 0; car 1, with 6 words of room, is train 2. */
    private static Run toSixWordsOfRoom(int size) {
        Run yard = new Run();
        yard.length(1);
        yard.make(0, 0, size - 2);
        Yards.large(yard, 2);
        yard.drop(2);
        Yards.large(yard, 1);
        return yard;
    }

    private static void putIntoTheLastCar() {
        Check.sentence(PUT, "TO PUT a THING of some words INTO a TRAIN: into its last CAR, if that has the ROOM;");
        Run fits = toSixWordsOfRoom(6);
        place(fits, "thing 3 is in train 2", 1, 32);
        Check.equal("step", fits.step(), 1);
        place(fits, "6 words into 6", 0, 58);
        Check.equal("room then", fits.about(1, 1), 0);
        Check.equal("cars of the train", fits.train(0, 1), 1);
        Run not = new Run();
        not.length(1);
        not.make(0, 0, 5);
        Yards.large(not, 1);
        Check.equal("step", not.step(), 0);
        place(not, "7 words into 6", 0, 64);
        Check.equal("room then", not.about(1, 1), 6);
        Check.equal("cars of the train", not.train(0, 1), 2);
    }

    /** Train 2 has car 1 with 6 words of room, and car 2 with none. */
    private static void putIntoTheLastCarOnly() {
        Check.sentence(PUT, "into its last CAR, if that has the ROOM; else the FREE CAR with the least number becomes"
                + " its last one;");
        Run yard = toSixWordsOfRoom(6);
        yard.length(2);
        Yards.large(yard, 2);
        yard.make(3, 2, 2);
        Check.equal("room of car 1", yard.about(1, 1), 6);
        Check.equal("room of car 2", yard.about(2, 1), 0);
        Check.equal("step", yard.step(), 1);
        place(yard, "not into car 1", 0, 96);
        Check.equal("car 3 is the last one", yard.car(0, 2), 3);
    }

    /** Car 0 is not free while it is emptied, and is the least free one in the next step. */
    private static void putIntoTheLeastFreeCar() {
        Check.sentence(PUT, "else the FREE CAR with the least number becomes its last one;");
        Run yard = Yards.largeOnes(3);
        Check.equal("step", yard.step(), 0);
        place(yard, "thing 1", 0, 96);
        Check.equal("step", yard.step(), 0);
        place(yard, "thing 2", 1, 0);
        Check.equal("trains", yard.told(0), 1);
        int[] cars = {2, 3, 0};
        for (int k = 0; k < 3; k++) {
            Check.equal("car " + k, yard.car(0, k), cars[k]);
        }
        Check.refuses(yard, "car 3 of the train", Check.INDEX, () -> yard.car(0, 3));
    }

    /**
     * Things 1 and 2, of 14 words, are in car 0, and things in cars 1 and 2 refer to them. Cars 1 .. 36 are full, in
     * trains of their own; what is in cars 37 and 38 is told, 0 for no such train.
     */
    private static Run fourteenWordsTwice(int words37, int words38) {
        Run yard = new Run();
        yard.length(1);
        yard.make(0, 0, 12);
        yard.make(1, 0, 12);
        Yards.large(yard, 2);
        yard.set(2, 0, 0);
        yard.make(3, 2, 2);
        Yards.large(yard, 2);
        yard.set(2, 0, 1);
        yard.make(3, 2, 2);
        Yards.fullCars(yard, 34, 2);
        lastCar(yard, words37);
        lastCar(yard, words38);
        for (int r = 0; r < 4; r++) {
            yard.drop(r);
        }
        return yard;
    }

    private static void lastCar(Run yard, int words) {
        if (words == 32) {
            Yards.fullCars(yard, 1, 2);
        } else if (words > 14) {
            yard.make(2, words - 14, 12);
        }
    }

    private static void secondWentTo(String what, int words37, int words38, int due) {
        Run yard = fourteenWordsTwice(words37, words38);
        Check.equal(what + ": one is free", yard.told(1), 1);
        Check.equal(what + ": step", yard.step(), 0);
        Check.equal(what + ": thing 1 in the last free car", yard.word(34), 39 * 32);
        Check.equal(what + ": which is in train 2", yard.about(39, 0), 2);
        Check.equal(what + ": thing 2", yard.word(66), due);
        Check.equal(what + ": its label", yard.word(due), 2);
        Check.equal(what + ": cars of train 3", yard.train(1, 1), 1);
        Check.equal(what + ": car 0 is free", yard.about(0, 0), 0);
    }

    private static void putWithNoFreeCar() {
        Check.sentence(PUT, "if there is none, the last CAR in ORDER that has the ROOM (but the one that is being emptied).");
        secondWentTo("14 words of room in car 38", 32, 18, 38 * 32 + 18);
        secondWentTo("13 words there, and 16 in car 37", 16, 19, 37 * 32 + 16);
        secondWentTo("room in both", 16, 18, 38 * 32 + 18);
        secondWentTo("room in neither", 32, 32, 39 * 32 + 14);
        secondWentTo("13 words in both", 19, 32, 39 * 32 + 14);
    }

    private static void putWithNoFreeCarButTheLast() {
        Check.sentence(PUT, "if there is none, the last CAR in ORDER that has the ROOM");
        Run yard = fourteenWordsTwice(16, 0);
        Check.equal("two are free", yard.told(1), 2);
        Check.equal("step", yard.step(), 0);
        Check.equal("thing 1", yard.word(34), 38 * 32);
        Check.equal("thing 2, though car 37 has the room", yard.word(66), 39 * 32);
        Check.equal("it is in train 3", yard.about(39, 0), 3);
        Check.equal("none is free but car 0", yard.told(1), 1);
    }

    /** Thing 2 goes to car 38 as no car is free; thing 3, to which it refers, goes there too, not to car 2. */
    private static void putBehindWhatWentElsewhere() {
        Check.sentence(PUT, "INTO the TRAIN in which it is now;");
        Run yard = new Run();
        yard.length(1);
        yard.make(0, 0, 12);
        yard.make(1, 1, 11);
        yard.make(2, 0, 0);
        yard.set(1, 0, 2);
        Yards.large(yard, 2);
        yard.set(2, 0, 0);
        yard.make(3, 2, 2);
        Yards.large(yard, 2);
        yard.set(2, 0, 1);
        Yards.fullCars(yard, 35, 2);
        yard.make(2, 0, 12);
        for (int r = 0; r < 4; r++) {
            yard.drop(r);
        }
        Check.equal("room of car 2", yard.about(2, 1), 6);
        Check.equal("one is free", yard.told(1), 1);
        Check.equal("step", yard.step(), 0);
        Check.equal("thing 2", yard.word(66), 38 * 32 + 14);
        Check.equal("thing 3", yard.word(38 * 32 + 16), 38 * 32 + 28);
        Check.equal("its label", yard.about(38, 4), 3);
        Check.equal("room of car 2 then", yard.about(2, 1), 6);
    }

    /** 38 trains of one car each, with a large thing; only the last one is held. */
    private static Run twoFreeCars() {
        Run yard = new Run();
        yard.length(1);
        for (int k = 0; k < 38; k++) {
            Yards.large(yard, 0);
        }
        return yard;
    }

    private static void makeStepsWithOneFreeCar() {
        Check.sentence(MAKE, "TO MAKE a THING: if the last CAR in ORDER has no ROOM for it, and only one CAR or none is"
                + " FREE, STEPS are done, one by one,");
        Run yard = twoFreeCars();
        Check.equal("two are free", yard.told(1), 2);
        Check.equal("made in the first of them", yard.make(1, 2, 3), 39);
        place(yard, "there", 1, 38 * 32);
        Check.equal("without a step", yard.told(3), 0);
        Check.equal("one is free", yard.told(1), 1);
        Check.equal("room in the last car", yard.about(38, 1), 25);
        Check.equal("made in all of it", yard.make(2, 12, 11), 40);
        place(yard, "there", 2, 38 * 32 + 7);
        Check.equal("without a step", yard.told(3), 0);
        Check.equal("made with no room, and one free", yard.make(3, 0, 0), 41);
        Check.equal("by a step", yard.told(3), 1);
        place(yard, "in the car that it emptied", 3, 0);
    }

    /** Register 0 holds 7 words in car 0; cars 0 .. 38 are full, in trains of their own. */
    private static Run sevenWordsHeld() {
        Run yard = new Run();
        yard.length(1);
        yard.make(0, 0, 5);
        yard.make(2, 12, 11);
        Yards.fullCars(yard, 38, 2);
        yard.drop(2);
        return yard;
    }

    private static void makeStepsTillTheRoomIsThere() {
        Check.sentence(MAKE, "STEPS are done, one by one, till it has,");
        Run fits = sevenWordsHeld();
        Check.equal("make of 25 words", fits.make(1, 12, 11), 79);
        Check.equal("one step", fits.told(3), 1);
        place(fits, "what is held went to car 39", 0, 39 * 32);
        place(fits, "and left 25 words", 1, 39 * 32 + 7);
        Check.equal("one is free", fits.told(1), 1);
        Check.equal("trains", fits.told(0), 38);
        Run not = sevenWordsHeld();
        Check.equal("make of 26 words", not.make(1, 12, 12), 79);
        Check.equal("two steps", not.told(3), 2);
        place(not, "in the least free car", 1, 0);
        Check.equal("gone", not.told(5), 3);
        Check.equal("a new train", not.thing(1, 2), 40);
    }

    private static void makeStepsTillTwoAreFree() {
        Check.sentence(MAKE, "or two are FREE,");
        Run yard = twoFreeCars();
        Yards.large(yard, 1);
        Check.equal("one is free", yard.told(1), 1);
        Check.equal("make", yard.make(2, 12, 12), 40);
        Check.equal("one step, though 37 trains could go", yard.told(3), 1);
        Check.equal("one train went", yard.told(4), 1);
        Check.equal("one thing is no more", yard.told(5), 1);
        Check.equal("one is free again", yard.told(1), 1);
    }

    /**
     * Train 1 has 39 full cars. The large thing in car 0 is held; each refers to the small one in its car, and to the
     * next large one, up to car lastNeeded.
     */
    private static Run rowOfThings(int lastNeeded) {
        Run yard = new Run();
        yard.length(40);
        for (int car = 0; car < 39; car++) {
            Yards.large(yard, 1);
            if (car > 0 && car <= lastNeeded) {
                yard.set(2, 1, 1);
            }
            if (car == 0) {
                yard.copy(0, 1);
            }
            yard.copy(2, 1);
            yard.make(3, 2, 2);
            yard.set(2, 0, 3);
        }
        yard.drop(1);
        yard.drop(2);
        yard.drop(3);
        return yard;
    }

    private static void makeStepsAtMostAsManyAsCars() {
        Check.sentence(MAKE, "but at most as many as CARS are in TRAINS before the first one;");
        Run made = rowOfThings(37);
        Check.equal("reached", made.reached(), 76);
        Check.equal("the last of 39 steps makes room", made.make(1, 12, 12), 79);
        Check.equal("steps", made.told(3), 39);
        Check.equal("gone", made.told(5), 2);
        Check.equal("a train went", made.told(4), 1);
        Check.equal("reached then", made.reached(), 77);
        Run not = rowOfThings(38);
        Check.equal("reached", not.reached(), 78);
        Check.equal("39 steps don't do", not.make(1, 12, 12), -1);
        Check.equal("steps", not.told(3), 39);
        Check.equal("gone", not.told(5), 0);
    }

    /**
     * Train 1 has cars 0 .. 37. Thing 1 in car 0 is kept by the last thing of car 38 alone, which itself is no more in
     * step 39: so it's step 40 that makes room, when thing 1 and the one it refers to come first.
     */
    private static void makeStopsOneStepTooEarly() {
        Check.sentence(MAKE, "but at most as many as CARS are in TRAINS before the first one; then, if it still has none,"
                + " and not two are FREE, it can't be made.");
        Run yard = new Run();
        yard.length(38);
        for (int car = 0; car < 38; car++) {
            Yards.large(yard, 1);
            yard.make(3, 2, 2);
            yard.set(1, 0, 3);
            if (car == 0) {
                yard.copy(4, 1);
            } else if (car == 1) {
                yard.copy(5, 1);
            } else {
                yard.set(2, 1, 1);
            }
            yard.copy(2, 1);
        }
        Yards.large(yard, 0);
        yard.set(0, 1, 5);
        yard.make(3, 2, 2);
        yard.set(3, 0, 4);
        for (int r = 1; r < 6; r++) {
            yard.drop(r);
        }
        Check.equal("cars of train 1", yard.train(0, 1), 38);
        Check.equal("make", yard.make(1, 2, 3), -1);
        Check.equal("steps", yard.told(3), 39);
        Check.equal("gone", yard.told(5), 1);
        Check.equal("one is free", yard.told(1), 1);
        Check.equal("labels", yard.told(9), 78);
        Check.equal("make again", yard.make(1, 2, 3), 79);
        Check.equal("steps", yard.told(3), 40);
        Check.equal("gone", yard.told(5), 3);
    }

    /** 39 full cars, in trains of their own, all of which can be come to from register 0. */
    static Run allNeeded() {
        Run yard = new Run();
        yard.length(1);
        for (int car = 0; car < 39; car++) {
            Yards.large(yard, 1);
            yard.set(1, 0, 0);
            yard.make(2, 2, 2);
            yard.set(1, 1, 2);
            yard.copy(0, 1);
        }
        yard.drop(1);
        yard.drop(2);
        return yard;
    }

    private static void cannotBeMade() {
        Check.sentence(MAKE, "then, if it still has none, and not two are FREE, it can't be made.");
        Run yard = allNeeded();
        Check.equal("the least thing", yard.make(0, 0, 0), -1);
        Check.equal("what the register holds", yard.thing(0, 0), 77);
        Check.equal("labels", yard.told(9), 78);
        Check.equal("things", yard.told(2), 78);
        Check.equal("one is free", yard.told(1), 1);
        Check.equal("steps", yard.told(3), 39);
        yard.drop(0);
        for (int k = 0; k < 8; k++) {
            yard.collect(100);
        }
        Check.isTrue("two are free", yard.told(1) >= 2);
        int steps = yard.told(3);
        Check.equal("it can be made", yard.make(0, 12, 12), 79);
        Check.equal("without a step", yard.told(3), steps);
    }

    private static void madeInTheLastCar() {
        Check.sentence(MAKE, "If the last CAR has the ROOM it goes there;");
        Run yard = new Run();
        yard.length(1);
        Yards.large(yard, 0);
        yard.make(1, 2, 2);
        place(yard, "6 words into 6", 1, 26);
        Check.equal("free cars", yard.told(1), 39);
        Yards.large(yard, 0);
        yard.make(1, 3, 2);
        place(yard, "7 words into 6", 1, 64);
        yard.make(1, 2, 2);
        place(yard, "the last car alone counts", 1, 64 + 7);
        Check.equal("6 words of room in car 1", yard.about(1, 1), 6);
    }

    private static void madeWithoutATrain() {
        Check.sentence(MAKE, "else, if there is no TRAIN, or the last one has as many CARS as LENGTH says (4 at first),"
                + " or more, the least FREE CAR becomes a new TRAIN,");
        Run yard = new Run();
        yard.make(0, 0, 0);
        place(yard, "the first thing", 0, 0);
        Check.equal("in train 1", yard.thing(0, 2), 1);
        yard.make(0, 0, 0);
        place(yard, "the second thing", 0, 2);
        Check.equal("in train 1", yard.thing(0, 2), 1);
        yard.drop(0);
        yard.step();
        Check.equal("no train", yard.told(0), 0);
        yard.make(0, 0, 0);
        place(yard, "the third thing", 0, 0);
        Check.equal("in train 2", yard.thing(0, 2), 2);
    }

    private static void madeByLength() {
        Check.sentence(MAKE, "or the last one has as many CARS as LENGTH says (4 at first)");
        Run yard = new Run();
        for (int car = 0; car < 5; car++) {
            Yards.large(yard, 0);
            Check.equal("train of thing " + car, yard.thing(0, 2), car < 4 ? 1 : 2);
        }
        Check.sentence(MAKE, "or else the last CAR of the last TRAIN, and it goes there.");
        Yards.large(yard, 0);
        Check.equal("train of thing 5", yard.thing(0, 2), 2);
        place(yard, "thing 5", 0, 5 * 32);
        Check.equal("cars of train 2", yard.train(1, 1), 2);
        Check.equal("the last one", yard.car(1, 1), 5);
        Check.equal("cars of train 1", yard.train(0, 1), 4);
    }

    private static void madeWithMoreCarsThanLength() {
        Check.sentence(MAKE, "the last one has as many CARS as LENGTH says (4 at first), or more,");
        for (int length = 1; length < 5; length++) {
            Run yard = new Run();
            Yards.large(yard, 0);
            Yards.large(yard, 0);
            Yards.large(yard, 0);
            yard.length(length);
            yard.make(0, 2, 2);
            Check.equal("with room, length " + length, yard.thing(0, 2), 1);
            yard.make(0, 0, 0);
            Check.equal("without, length " + length, yard.thing(0, 2), length <= 3 ? 2 : 1);
        }
        Run longest = new Run();
        longest.length(40);
        for (int car = 0; car < 39; car++) {
            Yards.large(longest, 0);
        }
        Check.equal("39 cars in one train", longest.train(0, 1), 39);
        Check.equal("trains", longest.told(0), 1);
    }
}
