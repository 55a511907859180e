/** Runs worked out by hand: where things are made, and each rule of a step. */
public final class StepTest {
    private static final int NONE = TrainYard.NONE;

    public static void main(String[] args) {
        makeFillsTheLastCar();
        makeKeepsToLength();
        stepMovesByRegisters();
        stepMovesTheNearestFirst();
        stepMovesIntoTheLastTrain();
        stepMakesOneTrainOnly();
        stepMovesToWhatRefers();
        stepMovesWithinTheFirstTrain();
        stepCouplesTheLeastFreeCar();
        registersComeFirst();
        otherTrainsComeBeforeTheFirst();
        wholeTrainGoes();
        uselessThingsStillRefer();
        ringOverTwoTrainsGoes();
        noFreeCarLeft(false);
        noFreeCarLeft(true);
        makeStepsTillTwoAreFree();
        makeStepsTillTheLastHasRoom();
        makeGivesUp();
        collectStopsWithTheTrains();
        collectCountsTheCarsAtFirst();
        orderIsNotByNumber();
        Check.end();
    }

    private static void place(Run yard, String what, int register, int due) {
        Check.equal(what, yard.thing(register, 1), due);
    }

    private static void makeFillsTheLastCar() {
        Run yard = new Run();
        yard.make(0, 12, 12);
        yard.make(1, 3, 1);
        place(yard, "what just fits", 1, 26);
        Check.equal("no room left", yard.about(0, 1), 0);
        yard.make(2, 0, 0);
        place(yard, "what fits no more", 2, 32);
        yard.make(3, 12, 12);
        yard.make(4, 12, 12);
        yard.make(5, 0, 0);
        place(yard, "only the last car counts", 5, 64 + 26);
        Check.equal("the last thing of car 1", yard.about(1, 4), 4);
    }

    private static void makeKeepsToLength() {
        Run yard = new Run();
        for (int k = 0; k < 5; k++) {
            yard.make(0, 12, 12);
        }
        Check.equal("four cars at first", yard.train(0, 1), 4);
        Check.equal("the fifth is in a new train", yard.thing(0, 2), 2);
        yard.make(0, 12, 12);
        yard.make(0, 12, 12);
        yard.length(2);
        yard.make(0, 0, 0);
        Check.equal("with room no new train", yard.thing(0, 2), 2);
        yard.make(0, 12, 12);
        Check.equal("three are more than two", yard.thing(0, 2), 3);
        yard.length(40);
        for (int k = 0; k < 20; k++) {
            yard.make(0, 12, 12);
        }
        Check.equal("a long train", yard.train(2, 1), 21);
        Check.equal("trains", yard.told(0), 3);
    }

    private static void stepMovesByRegisters() {
        Run yard = new Run();
        yard.make(5, 1, 0);
        yard.make(2, 0, 1);
        yard.make(9, 0, 0);
        yard.make(11, 0, 0);
        yard.set(5, 0, 9);
        yard.put(2, 0, 2);
        Check.equal("step", yard.step(), 0);
        place(yard, "register 2", 2, 32);
        place(yard, "register 5", 5, 35);
        place(yard, "what it refers to", 9, 38);
        place(yard, "register 11", 11, 40);
        Check.equal("the reference", yard.label(5, 0), 3);
        Check.equal("the number, which looks like a place", yard.number(2, 0), 2);
        Check.equal("moved", yard.told(6), 4);
        Check.equal("words moved", yard.told(7), 10);
        Check.equal("car 0 is free", yard.about(0, 0), 0);
        Check.equal("one train", yard.told(0), 1);
        Check.equal("the second one made", yard.train(0, 0), 2);
    }

    /** 1 is to 2 and 3, 2 to 4, 3 to 5, 4 to 1: by their distance from 1. */
    private static void stepMovesTheNearestFirst() {
        Run yard = new Run();
        for (int k = 5; k >= 1; k--) {
            yard.make(k, 2, 0);
        }
        yard.set(1, 0, 2);
        yard.set(1, 1, 3);
        yard.set(2, 1, 4);
        yard.set(3, 0, 5);
        yard.set(4, 0, 1);
        for (int k = 2; k <= 5; k++) {
            yard.drop(k);
        }
        Check.equal("step", yard.step(), 0);
        int[] labels = {5, 4, 3, 2, 1};
        for (int k = 0; k < labels.length; k++) {
            Check.equal("label " + k, yard.word(32 + 4 * k), labels[k]);
        }
        Check.equal("the ring is closed", yard.word(32 + 4 * 3 + 2), 32);
    }

    /** Cars 0, 1, 2 in trains of their own; the last one has room for the first thing, not for the second. */
    private static void stepMovesIntoTheLastTrain() {
        Run yard = new Run();
        yard.length(1);
        yard.make(0, 0, 4);
        yard.make(1, 0, 5);
        yard.make(2, 12, 12);
        yard.make(3, 12, 12);
        Check.equal("step", yard.step(), 0);
        place(yard, "it fits", 0, 64 + 26);
        place(yard, "it takes the least free car", 1, 96);
        Check.equal("in the last train", yard.thing(1, 2), 3);
        Check.equal("of two cars", yard.train(1, 1), 2);
        Check.equal("no train was made", yard.told(8), 3);
    }

    /** The first train has two cars, and only the one that is emptied gives to the new train. */
    private static void stepMakesOneTrainOnly() {
        Run yard = new Run();
        yard.make(0, 0, 12);
        yard.make(1, 0, 12);
        yard.make(2, 0, 12);
        Check.equal("step", yard.step(), 0);
        place(yard, "the first", 0, 64);
        place(yard, "the second", 1, 64 + 14);
        place(yard, "the third stays", 2, 32);
        Check.equal("two trains", yard.told(0), 2);
        Check.equal("made", yard.told(8), 2);
        Check.equal("the first train lost a car", yard.train(0, 1), 1);
        Check.equal("it is car 1", yard.car(0, 0), 1);
        Check.equal("step", yard.step(), 0);
        place(yard, "the third follows into car 0", 2, 0);
        Check.equal("which is behind car 2", yard.car(0, 1), 0);
    }

    /** Car 0 (train 1): things 1, 2, 3; car 1 (train 2) refers to 2; car 2 (train 3) to 1, then to 2. */
    private static void stepMovesToWhatRefers() {
        Run yard = new Run();
        yard.length(1);
        yard.make(0, 0, 0);
        yard.make(1, 0, 0);
        yard.make(2, 12, 12);
        yard.make(3, 12, 12);
        yard.make(4, 2, 12);
        yard.set(3, 11, 1);
        yard.set(4, 0, 0);
        yard.set(4, 1, 1);
        yard.drop(0);
        yard.drop(1);
        yard.drop(2);
        Check.equal("step", yard.step(), 1);
        yard.get(0, 4, 0);
        yard.get(1, 4, 1);
        place(yard, "what train 3 refers to", 0, 64 + 16);
        place(yard, "what train 2 refers to first", 1, 32 + 26);
        Check.equal("one and the same", yard.label(3, 11), 2);
        Check.equal("car 1 remembers it now", yard.remembered(1, 0), 64 + 3);
        Check.equal("gone", yard.told(5), 1);
        Check.equal("not as a whole", yard.told(4), 0);
        Check.equal("trains made", yard.told(8), 3);
    }

    /** Thing 3 in car 1 refers to thing 1 in car 0 of the one train. */
    private static void stepMovesWithinTheFirstTrain() {
        Run yard = new Run();
        yard.make(0, 0, 0);
        yard.make(1, 12, 12);
        yard.make(2, 1, 12);
        yard.set(2, 0, 0);
        yard.drop(0);
        yard.drop(1);
        Check.equal("step", yard.step(), 1);
        yard.get(0, 2, 0);
        place(yard, "behind what refers to it", 0, 32 + 15);
        Check.equal("one train", yard.told(0), 1);
        Check.equal("the first one made", yard.train(0, 0), 1);
        Check.equal("of one car", yard.train(0, 1), 1);
        Check.equal("no train was made", yard.told(8), 1);
    }

    private static void stepCouplesTheLeastFreeCar() {
        Run yard = new Run();
        yard.length(2);
        yard.make(0, 2, 2);
        yard.make(1, 12, 12);
        yard.make(2, 12, 12);
        yard.make(3, 2, 2);
        yard.make(4, 12, 12);
        yard.set(2, 0, 0);
        yard.drop(0);
        yard.drop(1);
        Check.equal("step", yard.step(), 1);
        yard.get(0, 2, 0);
        place(yard, "in the least free car", 0, 96);
        Check.equal("which the first train got", yard.thing(0, 2), 1);
        Check.equal("at its end", yard.car(0, 1), 3);
        Check.equal("before train 2", yard.car(1, 0), 2);
        Check.equal("so car 1 remembers nothing of itself", yard.about(1, 3), 0);
        Check.equal("and car 3 nothing before it", yard.about(3, 3), 0);
    }

    /** What a register holds and train 2 refers to goes to the last train, 3. */
    private static void registersComeFirst() {
        Run yard = new Run();
        yard.length(1);
        yard.make(0, 0, 0);
        yard.make(1, 12, 12);
        yard.make(2, 12, 12);
        yard.make(3, 12, 12);
        yard.set(2, 0, 0);
        Check.equal("step", yard.step(), 0);
        Check.equal("the last train", yard.thing(0, 2), 3);
        place(yard, "behind thing 4", 0, 64 + 26);
    }

    /** The reference from the first train has the lower place, that from train 2 comes before it all the same. */
    private static void otherTrainsComeBeforeTheFirst() {
        Run yard = new Run();
        yard.length(2);
        yard.make(0, 0, 0);
        yard.make(1, 12, 12);
        yard.make(2, 12, 12);
        yard.make(3, 12, 12);
        yard.set(2, 0, 0);
        yard.set(3, 0, 0);
        yard.drop(0);
        yard.drop(1);
        Check.equal("step", yard.step(), 1);
        yard.get(0, 2, 0);
        Check.equal("train 2", yard.thing(0, 2), 2);
        place(yard, "behind thing 4", 0, 64 + 26);
    }

    private static void wholeTrainGoes() {
        Run yard = new Run();
        yard.length(2);
        yard.make(0, 12, 12);
        yard.make(1, 12, 12);
        yard.make(2, 12, 12);
        yard.set(0, 0, 1);
        yard.set(1, 0, 0);
        yard.set(1, 1, 2);
        yard.drop(0);
        Check.equal("held, it is emptied only", yard.step(), 0);
        Check.equal("no train went", yard.told(4), 0);
        yard.drop(1);
        Check.equal("then it goes, both cars, and train 2 is emptied", yard.collect(2), 2);
        Check.equal("one train went", yard.told(4), 1);
        yard.drop(2);
        Check.equal("at last the third thing", yard.collect(0), 1);
        Check.equal("trains", yard.told(0), 0);
        Check.equal("free cars", yard.told(1), 40);
        Check.equal("two trains went", yard.told(4), 2);
        Run other = new Run();
        other.make(0, 12, 12);
        other.make(1, 12, 12);
        other.set(0, 0, 1);
        other.set(1, 0, 0);
        other.drop(0);
        other.drop(1);
        Check.equal("both cars at once", other.step(), 2);
        Check.equal("one train", other.told(4), 1);
        Check.equal("nothing was moved", other.told(6), 0);
        Check.equal("a new one begins in car 0", other.make(0, 0, 0), 3);
        Check.equal("as train 2", other.thing(0, 2), 2);
        place(other, "at its beginning", 0, 0);
    }

    /** Train 2 is held by none, but what is in it keeps what it refers to. */
    private static void uselessThingsStillRefer() {
        Run yard = new Run();
        yard.length(1);
        yard.make(0, 12, 12);
        yard.make(1, 12, 12);
        yard.set(1, 0, 0);
        yard.drop(0);
        yard.drop(1);
        Check.equal("nothing is lost yet", yard.step(), 0);
        Check.equal("it went to train 2", yard.train(0, 2), 2);
        Check.equal("which goes", yard.step(), 2);
    }

    private static void ringOverTwoTrainsGoes() {
        Run yard = new Run();
        yard.length(1);
        yard.make(0, 12, 12);
        yard.make(1, 12, 12);
        yard.set(0, 0, 1);
        yard.set(1, 0, 0);
        yard.drop(0);
        yard.drop(1);
        Check.equal("the ring comes together", yard.step(), 0);
        Check.equal("in train 2", yard.train(0, 0), 2);
        Check.equal("of two cars", yard.train(0, 1), 2);
        Check.equal("and goes", yard.step(), 2);
    }

    /** 39 trains of one car each, all full but for the first one and, if it shall have room, the last one. */
    private static Run fullYard(boolean roomAtTheEnd) {
        Run yard = new Run();
        yard.length(1);
        yard.make(0, 0, 12);
        yard.make(1, 0, 12);
        for (int car = 1; car < 38; car++) {
            yard.make(2, 12, 12);
            if (car < 3) {
                yard.set(2, 0, car - 1);
            }
            yard.make(2, 2, 2);
        }
        yard.make(2, 2, 12);
        if (!roomAtTheEnd) {
            yard.make(2, 2, 12);
        }
        yard.drop(0);
        yard.drop(1);
        yard.drop(2);
        return yard;
    }

    /** Things 1 and 2 leave car 0 for trains 2 and 3, which are full: one gets the free car, the other some room. */
    private static void noFreeCarLeft(boolean roomAtTheEnd) {
        Run yard = fullYard(roomAtTheEnd);
        Check.equal("one is free", yard.told(1), 1);
        Check.equal("step", yard.step(), 0);
        Check.equal("car 39 is in train 2", yard.about(39, 0), 2);
        Check.equal("one is free again", yard.told(1), 1);
        int first = yard.word(32 + 2);
        int second = yard.word(64 + 2);
        Check.equal("the first thing is in car 39", first, 39 * 32);
        Check.equal("the second where the last room is", second, roomAtTheEnd ? 38 * 32 + 16 : 39 * 32 + 14);
        Check.equal("its label", yard.word(second), 2);
    }

    private static void makeStepsTillTwoAreFree() {
        Run yard = fullYard(true);
        Check.equal("what fits needs no step", yard.make(3, 2, 12), 78);
        Check.equal("no steps", yard.told(3), 0);
        Check.equal("things", yard.told(2), 78);
        // The first step only moves; the second frees car 1, but train 2 stays for the thing that came from car 0.
        int label = yard.make(4, 12, 12);
        Check.equal("made", label, 79);
        Check.equal("steps", yard.told(3), 2);
        Check.equal("gone", yard.told(5), 2);
        Check.equal("no train went as a whole", yard.told(4), 0);
        Check.equal("the least free car", yard.thing(4, 1), 0);
        Check.equal("a new train", yard.thing(4, 2), 40);
    }

    /** The one thing that a register holds is moved to the end, behind which room is left. */
    private static void makeStepsTillTheLastHasRoom() {
        Run yard = new Run();
        yard.length(1);
        yard.make(0, 0, 5);
        yard.make(1, 12, 11);
        for (int car = 1; car < 39; car++) {
            yard.make(2, 12, 12);
            yard.make(2, 2, 2);
        }
        yard.drop(1);
        yard.drop(2);
        Check.equal("one is free", yard.told(1), 1);
        Check.equal("made", yard.make(5, 12, 11), 79);
        Check.equal("by one step", yard.told(3), 1);
        place(yard, "register 0", 0, 39 * 32);
        place(yard, "register 5", 5, 39 * 32 + 7);
        Check.equal("still one is free", yard.told(1), 1);
        Check.equal("in the last train", yard.thing(5, 2), 39);
    }

    /** All words of 39 cars are needed: each step fills the free car and frees another one. */
    private static void makeGivesUp() {
        Run yard = new Run();
        yard.length(1);
        for (int car = 0; car < 39; car++) {
            yard.make(1, 12, 12);
            yard.set(1, 0, 0);
            yard.make(2, 2, 2);
            yard.set(1, 1, 2);
            yard.copy(0, 1);
        }
        yard.drop(1);
        yard.drop(2);
        Check.equal("can't be made", yard.make(0, 0, 0), NONE);
        Check.equal("steps, as many as cars", yard.told(3), 39);
        Check.equal("no label was given", yard.told(9), 78);
        Check.equal("the register holds what it held", yard.thing(0, 0), 77);
        Check.equal("all are there", yard.reached(), 78);
        Check.equal("one is free", yard.told(1), 1);
        Check.equal("moved two by two", yard.told(6), 78);
        yard.drop(0);
        Check.equal("not at once without the register", yard.make(0, 0, 0), NONE);
        for (int k = 0; k < 8; k++) {
            yard.collect(100);
        }
        Check.equal("all have gone", yard.told(5), 78);
        Check.equal("it can be made", yard.make(0, 0, 0), 79);
    }

    private static void collectStopsWithTheTrains() {
        Run yard = new Run();
        yard.length(1);
        for (int k = 0; k < 5; k++) {
            yard.make(0, 12, 12);
        }
        yard.drop(0);
        Check.equal("collect(2)", yard.collect(2), 2);
        Check.equal("two steps", yard.told(3), 2);
        Check.equal("collect(100)", yard.collect(100), 3);
        Check.equal("five steps", yard.told(3), 5);
        Check.equal("five trains", yard.told(4), 5);
    }

    /** One train of three cars goes at the first of three steps; the yard is empty for the others. */
    private static void collectCountsTheCarsAtFirst() {
        Run yard = new Run();
        yard.length(1);
        for (int k = 0; k < 3; k++) {
            yard.make(k, 12, 12);
        }
        Check.equal("collect(0)", yard.collect(0), 0);
        Check.equal("three steps", yard.told(3), 3);
        Check.equal("collect(100)", yard.collect(100), 0);
        Check.equal("a hundred more", yard.told(3), 103);
    }

    /** Car 0 is freed and comes into a train again, behind car 1. */
    private static void orderIsNotByNumber() {
        Run yard = new Run();
        yard.length(1);
        yard.make(0, 12, 12);
        yard.make(1, 12, 12);
        Check.equal("step", yard.step(), 0);
        place(yard, "thing 1 in train 2", 0, 64);
        yard.make(2, 12, 12);
        place(yard, "thing 3 in car 0", 2, 0);
        Check.equal("as train 3", yard.thing(2, 2), 3);
        yard.set(2, 3, 1);
        yard.set(0, 0, 1);
        yard.set(1, 0, 2);
        Check.equal("car 1 remembers both", yard.about(1, 3), 2);
        Check.equal("by their places", yard.remembered(1, 0), 5);
        Check.equal("by their places", yard.remembered(1, 1), 66);
        Check.equal("car 0 none before it", yard.about(0, 3), 0);
        Check.equal("cars of train 2", yard.car(0, 1), 2);
    }
}
