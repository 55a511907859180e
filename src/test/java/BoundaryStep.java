/** The term A STEP, with its three points and the paragraph behind them. */
final class BoundaryStep {
    private static final String STEP = "Promise 10 (Terms)";

    private BoundaryStep() {
    }

    static void all() {
        aTrainAndAFreeCar();
        heldByARegister();
        heldByAReference();
        allCarsAndThingsGo();
        onlyTheFirstCar();
        inTheOrderOfRegisters();
        aNewTrainBefore();
        noNewTrain();
        toReferencesOfOtherTrains();
        inTheOrderOfPlaces();
        registersBeforeReferences();
        toReferencesOfOtherCars();
        inTheOrderOfPlacesOfOtherCars();
        otherTrainsBeforeOtherCars();
        behindAtOnce();
        behindInTheSameTrain();
        behindIfStillThere();
        behindInTheOrderMoved();
        behindAndSoOn();
        theTrainOfAReference();
        theSameThingAsBefore();
        whatIsStillThere();
        outOfItsTrain();
        theEmptiedCarIsNoCarInto();
        firstTrainWithNoOtherCar();
    }

    private static void place(Run yard, String what, int register, int due) {
        Check.equal(what, yard.thing(register, 1), due);
    }

    private static void step(Run yard, int lost) {
        Check.equal("step", yard.step(), lost);
    }

    private static void aTrainAndAFreeCar() {
        Check.sentence(STEP, "A STEP (if there is a TRAIN, and a FREE CAR).");
        Run yard = new Run();
        Check.answersNone(yard, "step without a train", yard::step);
        yard.make(0, 0, 0);
        step(yard, 0);
        Check.equal("steps", yard.told(3), 1);
        yard.drop(0);
        step(yard, 1);
        Check.answersNone(yard, "step when the train has gone", yard::step);
        Check.equal("steps", yard.told(3), 2);
        Run full = BoundaryMaking.allNeeded();
        Check.equal("one is free", full.told(1), 1);
        step(full, 0);
        Check.equal("one is free again", full.told(1), 1);
        Check.equal("steps", full.told(3), 1);
    }

    /** Train 1 has cars 0 and 1, with things 1 and 2; train 2 has car 2, with thing 3. */
    private static Run twoAndOne() {
        Run yard = new Run();
        yard.length(2);
        for (int r = 0; r < 3; r++) {
            Yards.large(yard, r);
        }
        return yard;
    }

    private static void heldByARegister() {
        Check.sentence(STEP, "If no REGISTER holds a THING in the first TRAIN,");
        for (int register : new int[] {0, 15}) {
            Run yard = twoAndOne();
            yard.drop(0);
            yard.copy(register, 1);
            yard.drop(1);
            step(yard, 1);
            Check.equal("held in its last car, the train stays", yard.train(0, 0), 1);
            Check.equal("no train went", yard.told(4), 0);
            yard.drop(register);
            step(yard, 1);
            Check.equal("not held, it goes", yard.told(4), 1);
            Check.equal("train 2 is the first", yard.train(0, 0), 2);
        }
    }

    private static void heldByAReference() {
        Check.sentence(STEP, "and no REFERENCE in another TRAIN is to one in it,");
        for (int i : new int[] {0, 11}) {
            Run yard = twoAndOne();
            yard.set(2, i, 1);
            yard.copy(9, 2);
            for (int r = 0; r < 3; r++) {
                yard.drop(r);
            }
            step(yard, 1);
            Check.equal("referred to, the train stays", yard.train(0, 0), 1);
            yard.set(9, i, 0);
            step(yard, 1);
            Check.equal("not referred to, it goes", yard.told(4), 1);
        }
        Run useless = twoAndOne();
        useless.set(2, 0, 1);
        for (int r = 0; r < 3; r++) {
            useless.drop(r);
        }
        step(useless, 1);
        Check.equal("referred to by what none needs, it stays", useless.told(4), 0);
    }

    private static void allCarsAndThingsGo() {
        Check.sentence(STEP, "all its CARS are FREE, and all their THINGS are no more.");
        Run yard = twoAndOne();
        yard.set(0, 0, 1);
        yard.set(1, 0, 0);
        yard.set(1, 1, 2);
        yard.drop(0);
        yard.drop(1);
        step(yard, 2);
        Check.equal("free cars", yard.told(1), 39);
        Check.equal("trains that went", yard.told(4), 1);
        Check.equal("things that are no more", yard.told(5), 2);
        Check.equal("moved", yard.told(6), 0);
        for (int car = 0; car < 2; car++) {
            Check.equal("train of car " + car, yard.about(car, 0), 0);
            Check.equal("room of car " + car, yard.about(car, 1), 32);
            Check.equal("things of car " + car, yard.about(car, 2), 0);
        }
        Check.equal("the first word", yard.word(0), 0);
        Check.equal("a reference in car 1", yard.word(34), 0);
        Check.equal("thing 3 is held", yard.thing(2, 0), 3);
        Check.equal("and remembers nothing", yard.about(2, 3), 0);
    }

    private static void onlyTheFirstCar() {
        Check.sentence(STEP, "Else its first CAR is EMPTIED: its THINGS are MOVED, one by one:");
        Run yard = twoAndOne();
        step(yard, 0);
        place(yard, "thing 1 is moved", 0, 96);
        place(yard, "thing 2 is not", 1, 32);
        place(yard, "thing 3 is not", 2, 64);
        Check.equal("moved", yard.told(6), 1);
        Check.equal("words", yard.told(7), 26);
        step(yard, 0);
        place(yard, "thing 2 is the next", 1, 0);
        Check.equal("moved", yard.told(6), 2);
        Check.equal("words", yard.told(7), 52);
    }

    private static void inTheOrderOfRegisters() {
        Check.sentence(STEP, "1. those that REGISTERS hold, in the order of the REGISTERS, INTO the last TRAIN;");
        Run yard = new Run();
        yard.make(15, 0, 0);
        yard.make(0, 0, 0);
        yard.make(14, 0, 0);
        yard.copy(3, 14);
        yard.make(1, 0, 0);
        yard.drop(1);
        step(yard, 1);
        place(yard, "register 0", 0, 32);
        place(yard, "register 3", 3, 34);
        place(yard, "register 14 holds the same", 14, 34);
        place(yard, "register 15", 15, 36);
        Check.equal("moved once each", yard.told(6), 3);
        Run last = Yards.largeOnes(3);
        step(last, 0);
        Check.equal("into the last train, not the next", last.thing(0, 2), 3);
        Check.equal("cars of train 2", last.train(0, 1), 1);
    }

    private static void aNewTrainBefore() {
        Check.sentence(STEP, "if that is the first one when the first such THING comes, the least FREE CAR becomes a new"
                + " TRAIN before;");
        Run one = Yards.largeOnes(1);
        step(one, 0);
        Check.equal("trains made", one.told(8), 2);
        Check.equal("trains", one.told(0), 1);
        Check.equal("its number", one.train(0, 0), 2);
        place(one, "the least free car", 0, 32);
        step(one, 0);
        place(one, "the least free car then", 0, 0);
        Check.equal("trains made", one.told(8), 3);
        Run two = Yards.largeOnes(2);
        step(two, 0);
        Check.equal("with a second train, none is made", two.told(8), 2);
        Check.equal("thing 1 is there", two.thing(0, 2), 2);
        Run full = new Run();
        for (int r = 0; r < 16; r++) {
            full.make(r, 0, 0);
        }
        step(full, 0);
        Check.equal("one new train for 16 things", full.told(8), 2);
        Check.equal("of one car", full.train(0, 1), 1);
        place(full, "the last of them", 15, 62);
    }

    /** Register 1 holds thing 2 in car 1 of the only train, none holds thing 1 in car 0. */
    private static void noNewTrain() {
        Check.sentence(STEP, "if that is the first one when the first such THING comes,");
        Run yard = new Run();
        Yards.large(yard, 0);
        Yards.large(yard, 1);
        yard.drop(0);
        step(yard, 1);
        Check.equal("none such comes, and no train is made", yard.told(8), 1);
        Check.equal("trains", yard.told(0), 1);
        step(yard, 0);
        Check.equal("one comes, and a train is made", yard.told(8), 2);
        place(yard, "in the least free car", 1, 0);
    }

    /**
     * Car 1 is the first train, 2, with thing 2 (7 words) and thing 3; car 2 is train 3, with thing 4; car 0 is train 4,
     * with thing 5. Registers 1 .. 4 hold things 2 .. 5.
     */
    private static Run carZeroComesLast() {
        Run yard = new Run();
        yard.length(1);
        Yards.large(yard, 0);
        yard.make(1, 0, 5);
        yard.make(2, 12, 11);
        Yards.large(yard, 3);
        yard.drop(0);
        yard.step();
        Yards.large(yard, 4);
        return yard;
    }

    private static void toReferencesOfOtherTrains() {
        Check.sentence(STEP, "2. those to which REFERENCES in other TRAINS are, in the order of the PLACES that these had"
                + " when the STEP began, each INTO the TRAIN in which that REFERENCE is;");
        Run yard = carZeroComesLast();
        Check.equal("the first train", yard.train(0, 0), 2);
        Check.equal("the last train's car", yard.car(2, 0), 0);
        yard.set(3, 0, 1);
        yard.set(4, 11, 1);
        yard.drop(1);
        yard.drop(2);
        step(yard, 1);
        Check.equal("to train 4, by the place 13", yard.word(13), 96);
        Check.equal("car 3", yard.about(3, 0), 4);
        Check.equal("not by the place 66", yard.word(66), 96);
        Check.equal("cars of train 3", yard.train(0, 1), 1);
        Run other = carZeroComesLast();
        other.set(3, 0, 1);
        other.drop(1);
        other.drop(2);
        step(other, 1);
        Check.equal("to train 3, by the place 66", other.about(3, 0), 3);
        Run none = carZeroComesLast();
        none.set(2, 0, 1);
        none.drop(1);
        none.drop(2);
        Check.equal("without one, the train goes", none.step(), 2);
        Check.equal("two trains went", none.told(4), 2);
    }

    /** Things 1, 2, 3 are in car 0; the large thing in car 1, train 2, refers to 3 by reference 4, and to 2 by 7. */
    private static void inTheOrderOfPlaces() {
        Check.sentence(STEP, "in the order of the PLACES that these had when the STEP began,");
        Run yard = new Run();
        yard.length(1);
        yard.make(0, 0, 7);
        yard.make(1, 0, 0);
        yard.make(2, 0, 0);
        Yards.large(yard, 3);
        yard.set(3, 4, 2);
        yard.set(3, 7, 1);
        yard.set(3, 11, 2);
        for (int r = 0; r < 3; r++) {
            yard.drop(r);
        }
        step(yard, 1);
        Check.equal("thing 3 is the first", yard.word(32 + 6), 32 + 26);
        Check.equal("thing 2 is the second", yard.word(32 + 9), 32 + 28);
        Check.equal("thing 3 is not moved again", yard.word(32 + 13), 32 + 26);
        Check.equal("moved", yard.told(6), 2);
        Check.equal("words", yard.told(7), 4);
    }

    private static void registersBeforeReferences() {
        Check.sentence(STEP, "those that REGISTERS hold, in the order of the REGISTERS, INTO the last TRAIN;");
        Run held = Yards.largeOnes(3);
        held.set(1, 0, 0);
        held.copy(15, 0);
        held.drop(0);
        step(held, 0);
        Check.equal("held, it goes to the last train", held.thing(15, 2), 3);
        Run not = Yards.largeOnes(3);
        not.set(1, 0, 0);
        not.drop(0);
        step(not, 0);
        not.get(0, 1, 0);
        Check.equal("not held, it goes to what refers to it", not.thing(0, 2), 2);
    }

    /** Car 0 of the only train has things 1 and 2, car 1 thing 3, which is held. */
    private static Run withinTheFirstTrain() {
        Run yard = new Run();
        yard.make(0, 1, 0);
        yard.make(1, 12, 12);
        Yards.large(yard, 2);
        return yard;
    }

    private static void toReferencesOfOtherCars() {
        Check.sentence(STEP, "3. those to which REFERENCES in other CARS of the first TRAIN are, in the order of these"
                + " PLACES, INTO the first TRAIN.");
        Run yard = withinTheFirstTrain();
        yard.set(2, 5, 0);
        yard.drop(0);
        yard.drop(1);
        step(yard, 1);
        Check.equal("behind what refers to it", yard.word(32 + 7), 32 + 26);
        Check.equal("trains", yard.told(0), 1);
        Check.equal("trains made", yard.told(8), 1);
        Check.equal("the number", yard.train(0, 0), 1);
        Run not = withinTheFirstTrain();
        not.set(0, 0, 1);
        not.set(1, 0, 0);
        not.drop(0);
        not.drop(1);
        step(not, 2);
        Check.equal("those in the car itself don't count", not.told(6), 0);
        Check.equal("things", not.told(2), 1);
    }

    /**
     * The only train, 3, has cars 2, 3, 0, in which are things 3, 4, 5; thing 1; and thing 2. Thing 1 refers to 4, and
     * thing 2, whose place is less, to 5.
     */
    private static void inTheOrderOfPlacesOfOtherCars() {
        Check.sentence(STEP, "in the order of these PLACES, INTO the first TRAIN.");
        Run yard = Yards.largeOnes(3);
        yard.make(3, 0, 0);
        yard.make(4, 0, 0);
        Check.equal("two steps", yard.collect(2), 0);
        Check.equal("one train", yard.told(0), 1);
        Check.equal("the first car", yard.car(0, 0), 2);
        Check.equal("the last car", yard.car(0, 2), 0);
        yard.set(0, 0, 3);
        yard.set(1, 0, 4);
        yard.drop(2);
        yard.drop(3);
        yard.drop(4);
        step(yard, 1);
        Check.equal("thing 5 is the first, by the place 2", yard.word(2), 26);
        Check.equal("thing 4 is the second, by the place 98", yard.word(98), 28);
        Check.equal("the last one of car 0", yard.about(0, 4), 4);
    }

    private static void otherTrainsBeforeOtherCars() {
        Check.sentence(STEP, "those to which REFERENCES in other CARS of the first TRAIN are,");
        Run yard = new Run();
        yard.length(2);
        yard.make(0, 0, 0);
        for (int r = 1; r < 4; r++) {
            Yards.large(yard, r);
        }
        yard.set(2, 0, 0);
        yard.set(3, 0, 0);
        yard.drop(0);
        yard.drop(1);
        Run other = yard.again();
        step(yard, 1);
        yard.get(0, 2, 0);
        Check.equal("the reference in train 2 comes first", yard.thing(0, 2), 2);
        other.set(3, 0, 0);
        step(other, 1);
        other.get(0, 2, 0);
        Check.equal("the one in train 1, without it", other.thing(0, 2), 1);
    }

    private static void behindAtOnce() {
        Check.sentence(STEP, "Behind each THING that is MOVED by 1, 2 or 3, at once, those to which its REFERENCES are,");
        Run held = new Run();
        held.make(0, 1, 0);
        held.make(1, 0, 0);
        held.make(2, 0, 0);
        held.set(0, 0, 2);
        step(held, 0);
        place(held, "by 1: the first", 0, 32);
        place(held, "what it refers to", 2, 35);
        place(held, "the second", 1, 37);
        Run referred = new Run();
        referred.length(1);
        behindReferences(referred, 1);
        Run within = new Run();
        behindReferences(within, 0);
    }

    /** By 2 or 3: car 1 refers to thing 1, then to 2; thing 1 refers to 3. */
    private static void behindReferences(Run yard, int trains) {
        yard.make(0, 1, 4);
        yard.make(1, 0, 0);
        yard.make(2, 0, 0);
        yard.set(0, 0, 2);
        yard.make(3, 12, 7);
        yard.set(3, 0, 0);
        yard.set(3, 1, 1);
        Check.equal("trains", yard.told(0), 1);
        place(yard, "what fills car 0", 3, 11);
        yard.make(4, 12, 7);
        yard.set(4, 0, 0);
        yard.set(4, 1, 1);
        Check.equal("trains", yard.told(0), 1 + trains);
        for (int r = 0; r < 4; r++) {
            yard.drop(r);
        }
        step(yard, 1);
        Check.equal("thing 1 fits behind", yard.word(34), 32 + 21);
        Check.equal("what it refers to", yard.word(32 + 21 + 2), 32 + 28);
        Check.equal("thing 2", yard.word(35), 32 + 30);
    }

    /** Thing 1, to which train 2 refers, may refer to thing 2, to which train 3 refers. */
    private static void behindInTheSameTrain() {
        Check.sentence(STEP, "INTO the TRAIN in which it is now;");
        Run apart = toTwoTrains(false);
        step(apart, 0);
        apart.get(1, 3, 0);
        Check.equal("without a reference in thing 1, thing 2 goes to train 3", apart.thing(1, 2), 3);
        Run linked = toTwoTrains(true);
        step(linked, 0);
        linked.get(1, 3, 0);
        Check.equal("with it, thing 2 goes to train 2", linked.thing(1, 2), 2);
        place(linked, "behind thing 1", 1, 96 + 9);
    }

    private static Run toTwoTrains(boolean linked) {
        Run yard = new Run();
        yard.length(1);
        yard.make(0, 1, 6);
        yard.make(1, 0, 0);
        yard.set(0, 0, linked ? 1 : 9);
        Yards.large(yard, 2);
        Yards.large(yard, 3);
        yard.set(2, 0, 0);
        yard.set(3, 0, 1);
        yard.drop(0);
        yard.drop(1);
        return yard;
    }

    /** Thing 1 refers to thing 2 in its own car, and to thing 4 in the next car of the train. */
    private static void behindIfStillThere() {
        Check.sentence(STEP, "if they are still in the CAR, are MOVED, in the order of the REFERENCES,");
        Run yard = new Run();
        yard.make(0, 4, 0);
        yard.make(1, 0, 0);
        yard.make(2, 12, 7);
        yard.drop(2);
        Yards.large(yard, 3);
        yard.set(0, 0, 3);
        yard.set(0, 1, 0);
        yard.set(0, 2, 1);
        yard.set(0, 3, 1);
        yard.drop(1);
        yard.drop(3);
        step(yard, 1);
        Check.equal("moved", yard.told(6), 2);
        Check.equal("thing 4 stays in the other car", yard.word(66), 32);
        Check.equal("thing 1 refers to itself", yard.word(67), 64);
        Check.equal("thing 2 is behind it", yard.word(68), 70);
        Check.equal("once", yard.word(69), 70);
    }

    /** 1 is to 3 and 2, 3 to 4, 2 to 5; they go by their distance from 1, and 3 comes before 2. */
    private static void behindInTheOrderMoved() {
        Check.sentence(STEP, "then likewise those of these, in the order in which they were MOVED, and so on.");
        Run yard = new Run();
        for (int r = 1; r <= 5; r++) {
            yard.make(r, 2, 0);
        }
        yard.set(1, 0, 3);
        yard.set(1, 1, 2);
        yard.set(3, 1, 4);
        yard.set(2, 0, 5);
        yard.set(4, 0, 1);
        yard.set(5, 0, 5);
        for (int r = 2; r <= 5; r++) {
            yard.drop(r);
        }
        step(yard, 0);
        int[] labels = {1, 3, 2, 4, 5};
        for (int k = 0; k < labels.length; k++) {
            Check.equal("thing " + k, yard.word(32 + 4 * k), labels[k]);
        }
    }

    /** Ten things of three words in a row, the last of which alone is held; that of thing gap + 1 is to none. */
    private static void behindAndSoOn() {
        Check.sentence(STEP, "in the order in which they were MOVED, and so on.");
        for (int gap = 0; gap < 10; gap++) {
            Run yard = new Run();
            yard.make(0, 1, 0);
            for (int k = 1; k < 10; k++) {
                yard.copy(1, 0);
                yard.make(0, 1, 0);
                yard.set(0, 0, k == gap ? 9 : 1);
            }
            yard.drop(1);
            step(yard, gap);
            Check.equal("moved, gap " + gap, yard.told(6), 10 - gap);
            Check.equal("the last one moved, gap " + gap, yard.about(1, 4), 1 + gap);
        }
    }

    /** Thing 1 was made in train 1 and goes to train 3; then thing 2, to which it refers, follows it there. */
    private static void theTrainOfAReference() {
        Check.sentence(STEP, "(A TRAIN in which a REFERENCE is, is that of the CAR in which it is.)");
        Run yard = Yards.largeOnes(4);
        yard.set(2, 0, 0);
        yard.set(0, 0, 1);
        yard.drop(0);
        yard.drop(1);
        step(yard, 0);
        Check.equal("thing 1", yard.word(66), 128);
        Check.equal("in train 3", yard.about(4, 0), 3);
        step(yard, 0);
        Check.equal("thing 2", yard.word(130), 0);
        Check.equal("in train 3 too", yard.about(0, 0), 3);
        Check.equal("cars of train 3", yard.train(0, 1), 3);
    }

    private static void theSameThingAsBefore() {
        Check.sentence(STEP, "Each REFERENCE and REGISTER refers to the same THING as before.");
        Run yard = new Run();
        yard.length(1);
        yard.make(0, 3, 2);
        yard.make(1, 3, 2);
        yard.put(0, 0, 7);
        yard.put(1, 1, 1);
        Yards.large(yard, 2);
        yard.set(0, 0, 0);
        yard.set(0, 1, 1);
        yard.set(0, 2, 2);
        yard.set(1, 0, 0);
        yard.set(2, 0, 1);
        yard.set(2, 11, 0);
        yard.copy(15, 0);
        step(yard, 0);
        Check.equal("register 0", yard.thing(0, 0), 1);
        Check.equal("register 15", yard.thing(15, 0), 1);
        Check.equal("register 1", yard.thing(1, 0), 2);
        int[][] labels = {{1, 2, 3}, {1, 0, 0}};
        for (int r = 0; r < 2; r++) {
            for (int i = 0; i < 3; i++) {
                Check.equal("reference " + i + " of register " + r, yard.label(r, i), labels[r][i]);
            }
        }
        Check.equal("reference from train 2", yard.label(2, 0), 2);
        Check.equal("reference from train 2", yard.label(2, 11), 1);
        Check.equal("a number like a place", yard.number(0, 0), 7);
        Check.equal("a number like a label", yard.number(1, 1), 1);
        Check.equal("the place of thing 1", yard.thing(0, 1), 64);
        Check.equal("what its own reference says", yard.word(66), 64);
    }

    private static void whatIsStillThere() {
        Check.sentence(STEP, "Then all THINGS that are still in the CAR are no more;");
        for (int held = 1; held <= 16; held++) {
            Run yard = new Run();
            for (int k = 0; k < 16; k++) {
                yard.make(k < held ? k : 0, 0, 0);
            }
            step(yard, 16 - held);
            Check.equal("moved, with " + held + " held", yard.told(6), held);
            Check.equal("no more, with " + held + " held", yard.told(5), 16 - held);
            Check.equal("things, with " + held + " held", yard.told(2), held);
        }
    }

    private static void outOfItsTrain() {
        Check.sentence(STEP, "it is FREE, and out of its TRAIN (which is no more, if it has no CAR).");
        Run yard = twoAndOne();
        step(yard, 0);
        Check.equal("car 0", yard.about(0, 0), 0);
        Check.equal("its room", yard.about(0, 1), 32);
        Check.equal("its first word", yard.word(0), 0);
        Check.equal("train 1 has one car", yard.train(0, 1), 1);
        Check.equal("car 1", yard.car(0, 0), 1);
        Check.equal("trains", yard.told(0), 2);
        step(yard, 0);
        Check.equal("train 1 is no more", yard.train(0, 0), 2);
        Check.equal("trains", yard.told(0), 1);
        Check.equal("none went as a whole", yard.told(4), 0);
        Check.refuses(yard, "train(1, 0)", Check.INDEX, () -> yard.train(1, 0));
    }

    /** Thing 1 goes INTO the first train: car 0 has 25 words of room, but is emptied; car 1 has 6. */
    private static void theEmptiedCarIsNoCarInto() {
        Check.sentence(STEP, "While it is EMPTIED it is no CAR that INTO means:");
        for (int numbers = 4; numbers < 6; numbers++) {
            Run yard = new Run();
            yard.make(0, 0, numbers);
            if (numbers == 4) {
                yard.make(1, 0, 0);
            }
            Yards.large(yard, 1);
            yard.set(1, 0, 0);
            yard.drop(0);
            Check.equal("car 0 has the room", yard.about(0, 1), numbers == 4 ? 24 : 25);
            step(yard, numbers == 4 ? 1 : 0);
            Check.equal("size " + (2 + numbers), yard.word(34), numbers == 4 ? 58 : 64);
            Check.equal("cars of train 1", yard.train(0, 1), numbers == 4 ? 1 : 2);
            Check.equal("car 0 is free", yard.about(0, 0), 0);
        }
    }

    /**
     * The first train never is one that INTO means while it has no other car, as what its own car's registers hold goes
     * to the last train; so the sentence shows in this: nothing stays in the car, though it has room.
     */
    private static void firstTrainWithNoOtherCar() {
        Check.sentence(STEP, "if the first TRAIN has no other one, INTO it is as into a TRAIN whose last CAR has no ROOM.");
        Run yard = new Run();
        yard.make(0, 1, 0);
        yard.make(1, 0, 0);
        yard.set(0, 0, 1);
        yard.drop(1);
        Check.equal("room", yard.about(0, 1), 27);
        step(yard, 0);
        place(yard, "thing 1", 0, 32);
        Check.equal("thing 2", yard.word(34), 35);
        Check.equal("car 0 is free", yard.about(0, 0), 0);
        Check.equal("train 2 has car 1 alone", yard.train(0, 1), 1);
    }
}
