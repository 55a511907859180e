/** The terms of the document, but for putting, making and stepping. */
final class BoundaryTerms {
    private BoundaryTerms() {
    }

    static void all() {
        fiveHundredAndTwelveCalls();
        manySteps();
        fortyCars();
        eachWord();
        freeOrInATrain();
        oneOrMoreCars();
        numbersOfTrains();
        order();
        sizes();
        places();
        room();
        lastThing();
        thingsStay();
        labels();
        references();
        registers();
        whatACarRemembers();
        theFirstExceptionOfSeveral();
        whatThrowsChangesNothing();
        whatAnswersNoneChangesNothing();
        putThatAnswersNoneChanges();
        makeThatAnswersNoneHasStepped();
    }

    private static void fiveHundredAndTwelveCalls() {
        Check.sentence("Promise 1 (What it is)", "An object is used for at most 512 calls after it has been made;");
        Run yard = new Run();
        for (int call = 1; call < Run.MOST_CALLS; call++) {
            Check.equal("thing made by call " + call, yard.make(call % 16, 0, 0), call);
        }
        Check.equal("labels, told by call 512", yard.told(9), 511);
        Run other = new Run();
        for (int call = 1; call < Run.MOST_CALLS; call++) {
            other.make(0, 12, 12);
        }
        Check.equal("thing made by call 512, with a step for each", other.make(0, 12, 12), 512);
        Check.equal("calls left", other.callsLeft(), 0);
    }

    private static void manySteps() {
        Check.sentence("Promise 11 (What it is)", "what later calls answer is free.");
        Run yard = new Run();
        yard.make(0, 0, 0);
        for (int call = 2; call < Run.MOST_CALLS; call++) {
            Check.equal("gone by call " + call, yard.collect(100), 0);
        }
        Check.equal("steps, told by call 512", yard.told(3), 51_000);
    }

    private static void fortyCars() {
        Check.sentence("Promises 16 and 18 (Terms)",
                "THE YARD has 40 CARS, numbered from 0 on, each of 32 words, which have PLACES: 32 * its number + 0 .. 31.");
        Run yard = new Run();
        Check.equal("free cars", yard.told(1), 40);
        Check.equal("room of car 0", yard.about(0, 1), 32);
        Check.equal("room of car 39", yard.about(39, 1), 32);
        Check.equal("word 0", yard.word(0), 0);
        Check.equal("word 1279", yard.word(1279), 0);
        Check.refuses(yard, "about car -1", Check.INDEX, () -> yard.about(-1, 1));
        Check.refuses(yard, "about car 40", Check.INDEX, () -> yard.about(40, 1));
        Check.refuses(yard, "word -1", Check.INDEX, () -> yard.word(-1));
        Check.refuses(yard, "word 1280", Check.INDEX, () -> yard.word(1280));
    }

    /** 39 cars are filled by making, the last one by a step. */
    private static void eachWord() {
        Check.sentence("Promise 18 (Terms)", "each of 32 words, which have PLACES: 32 * its number + 0 .. 31.");
        Run yard = new Run();
        for (int car = 0; car < 39; car++) {
            Check.equal("label", yard.make(car == 0 ? 14 : 0, 12, 12), 2 * car + 1);
            yard.make(car == 0 ? 15 : 1, 2, 2);
            yard.put(car == 0 ? 15 : 1, 1, 1000 + car);
        }
        for (int car = 0; car < 39; car++) {
            Check.equal("first word of car " + car, yard.word(32 * car), 2 * car + 1);
            Check.equal("last word of car " + car, yard.word(32 * car + 31), 1000 + car);
            Check.equal("room of car " + car, yard.about(car, 1), 0);
        }
        Check.equal("first word of car 39", yard.word(1248), 0);
        Check.equal("step", yard.step(), 0);
        Check.equal("first word of car 39 then", yard.word(1248), 1);
        Check.equal("last word of car 39 then", yard.word(1279), 1000);
        Check.equal("last word of car 0 then", yard.word(31), 0);
    }

    private static void freeOrInATrain() {
        Check.sentence("Promises 16 and 20 (Terms)", "A CAR is FREE, or in a TRAIN;");
        Run yard = new Run();
        Check.equal("car 0 of the empty yard", yard.about(0, 0), 0);
        yard.make(0, 0, 0);
        Check.equal("car 0 with a thing", yard.about(0, 0), 1);
        Check.equal("car 1 without", yard.about(1, 0), 0);
        Check.equal("free cars", yard.told(1), 39);
        yard.step();
        Check.equal("car 0, emptied", yard.about(0, 0), 0);
        Check.equal("car 1 with the thing", yard.about(1, 0), 2);
        Check.equal("free cars then", yard.told(1), 39);
        yard.drop(0);
        yard.step();
        Check.equal("car 1, when its train has gone", yard.about(1, 0), 0);
        Check.equal("free cars at last", yard.told(1), 40);
    }

    private static void oneOrMoreCars() {
        Check.sentence("Promise 14 (Terms)", "a TRAIN is a row of one or more CARS;");
        Run yard = new Run();
        yard.length(2);
        for (int r = 0; r < 3; r++) {
            Yards.large(yard, r);
        }
        yard.drop(0);
        Check.equal("train 1 has two", yard.train(0, 1), 2);
        Check.equal("train 2 has one", yard.train(1, 1), 1);
        Check.equal("step", yard.step(), 1);
        Check.equal("train 1 has one", yard.train(0, 1), 1);
        Check.equal("and is there", yard.train(0, 0), 1);
        Check.equal("step", yard.step(), 0);
        Check.equal("train 1 is no more", yard.train(0, 0), 2);
        Check.equal("one train is left", yard.told(0), 1);
        Check.refuses(yard, "train(1, 1)", Check.INDEX, () -> yard.train(1, 1));
    }

    private static void numbersOfTrains() {
        Check.sentence("Promise 14 (Terms)", "the TRAINS are a row, too, and have NUMBERS from 1 on in the order in which"
                + " they were made (each new one comes at the end of the row).");
        Run yard = Yards.largeOnes(3);
        for (int i = 0; i < 3; i++) {
            Check.equal("train " + i, yard.train(i, 0), i + 1);
        }
        yard.drop(0);
        Check.equal("step", yard.step(), 1);
        Check.equal("train 1 went", yard.train(0, 0), 2);
        Yards.large(yard, 0);
        Check.equal("the new one's number", yard.train(2, 0), 4);
        Check.equal("the new one's car", yard.car(2, 0), 0);
        yard.drop(0);
        yard.drop(1);
        yard.drop(2);
        Check.equal("collect", yard.collect(100), 3);
        Check.equal("none is left", yard.told(0), 0);
        Yards.large(yard, 0);
        Check.equal("the next number", yard.train(0, 0), 5);
    }

    /** Train 2 comes to have cars 1 and 2, train 3 car 0. */
    private static void order() {
        Check.sentence("Promises 16 and 17 (Terms)", "CARS are in ORDER: by their TRAINS, then as they stand in them.");
        Run yard = Yards.largeOnes(2);
        Check.equal("step", yard.step(), 0);
        Yards.large(yard, 2);
        Check.equal("thing 1", yard.thing(0, 1), 64);
        Check.equal("thing 3", yard.thing(2, 1), 0);
        yard.set(1, 0, 2);
        yard.set(0, 1, 2);
        Check.equal("car 0 is behind both", yard.about(0, 3), 0);
        yard.set(2, 3, 1);
        yard.set(0, 0, 1);
        Check.equal("car 1 is before both", yard.about(1, 3), 2);
        Check.equal("car 0 comes first by its places", yard.remembered(1, 0), 5);
        Check.equal("then car 2", yard.remembered(1, 1), 66);
        yard.set(1, 1, 0);
        yard.set(2, 4, 0);
        Check.equal("car 2 is before car 0 alone", yard.about(2, 3), 1);
        Check.equal("in train 3", yard.remembered(2, 0), 6);
    }

    private static void sizes() {
        Check.sentence("Promises 3 and 18 (Terms)", "A THING has a LABEL, a row of 0 .. 12 REFERENCES and a row of"
                + " 0 .. 12 NUMBERS (ints), and takes as many words as these, and two more, side by side: first the LABEL,"
                + " then how many there are of both, then REFERENCES, then NUMBERS.");
        for (int references : new int[] {0, 1, 11, 12}) {
            for (int numbers : new int[] {0, 1, 11, 12}) {
                oneSize(references, numbers);
            }
        }
        Run yard = Yards.two();
        Check.refuses(yard, "make of 13 references", Check.ARGUMENT, () -> yard.make(1, 13, 12));
        Check.refuses(yard, "make of 13 numbers", Check.ARGUMENT, () -> yard.make(1, 12, 13));
        Check.refuses(yard, "make of -1 references", Check.ARGUMENT, () -> yard.make(1, -1, 0));
        Check.refuses(yard, "make of -1 numbers", Check.ARGUMENT, () -> yard.make(1, 0, -1));
    }

    private static void oneSize(int references, int numbers) {
        String name = references + " and " + numbers + ": ";
        Run yard = new Run();
        yard.make(0, references, numbers);
        yard.make(1, 0, 0);
        int size = 2 + references + numbers;
        Check.equal(name + "place of the next", yard.thing(1, 1), size);
        Check.equal(name + "room", yard.about(0, 1), 32 - size - 2);
        Check.equal(name + "the label", yard.word(0), 1);
        Check.equal(name + "how many", yard.word(1), references + 16 * numbers);
        for (int i = 0; i < references; i++) {
            yard.set(0, i, 1);
            Check.equal(name + "reference " + i, yard.word(2 + i), size);
        }
        for (int i = 0; i < numbers; i++) {
            yard.put(0, i, i % 2 == 0 ? Check.LOW : Check.HIGH);
            Check.equal(name + "number " + i, yard.word(2 + references + i), i % 2 == 0 ? Check.LOW : Check.HIGH);
        }
        Check.equal(name + "the next label", yard.word(size), 2);
    }

    private static void places() {
        Check.sentence("Promises 12 and 17 (Terms)",
                "Its PLACE is that of its first word; a REFERENCE's PLACE is that of its word.");
        Run yard = new Run();
        yard.make(0, 0, 0);
        Yards.large(yard, 1);
        yard.make(2, 12, 0);
        Check.equal("first thing of car 0", yard.thing(0, 1), 0);
        Check.equal("second thing of car 0", yard.thing(1, 1), 2);
        Check.equal("first thing of car 1", yard.thing(2, 1), 32);
        yard.set(2, 0, 0);
        yard.set(2, 11, 1);
        Check.equal("the first reference", yard.remembered(0, 0), 34);
        Check.equal("is to", yard.word(34), 0);
        Check.equal("the last reference", yard.remembered(0, 1), 45);
        Check.equal("is to", yard.word(45), 2);
    }

    private static void room() {
        Check.sentence("Promise 16 (Terms)", "THINGS lie in a CAR one behind the other from its beginning on;");
        Run yard = new Run();
        for (int k = 0; k < 16; k++) {
            yard.make(0, 0, 0);
            Check.equal("place of thing " + k, yard.thing(0, 1), 2 * k);
            Check.equal("room behind it", yard.about(0, 1), 30 - 2 * k);
            Check.equal("the last one", yard.about(0, 4), k + 1);
        }
        yard.make(0, 0, 0);
        Check.equal("place of the one that is too many", yard.thing(0, 1), 32);
        Check.equal("things in car 0", yard.about(0, 2), 16);
        Check.equal("things in car 1", yard.about(1, 2), 1);
        Check.sentence("Promise 16 (Terms)", "the words behind are its ROOM.");
        Run other = new Run();
        Yards.large(other, 0);
        other.make(1, 2, 2);
        Check.equal("6 words fill 6 words", other.thing(1, 1), 26);
        Check.equal("no room is left", other.about(0, 1), 0);
        Run one = new Run();
        Yards.large(one, 0);
        one.make(1, 2, 3);
        Check.equal("7 words need another car", one.thing(1, 1), 32);
        Check.equal("6 words are left", one.about(0, 1), 6);
    }

    private static void lastThing() {
        Check.sentence("Promise 16 (Terms)", "what was put into it last is the last one;");
        Run yard = new Run();
        Check.equal("without a thing", yard.about(0, 4), 0);
        yard.make(2, 0, 0);
        Check.equal("with one", yard.about(0, 4), 1);
        yard.make(1, 0, 0);
        Check.equal("with two", yard.about(0, 4), 2);
        Check.equal("step", yard.step(), 0);
        Check.equal("car 0, emptied", yard.about(0, 4), 0);
        Check.equal("car 1: register 2 came behind register 1", yard.about(1, 4), 1);
        yard.make(3, 0, 0);
        Check.equal("car 1: made there", yard.about(1, 4), 3);
    }

    private static void thingsStay() {
        Check.sentence("Promises 3, 5 and 16 (Terms)",
                "(THINGS of a CAR that is in a TRAIN stay there, needed or not, till the CAR or the TRAIN is emptied.)");
        Run yard = new Run();
        yard.make(0, 0, 0);
        yard.make(0, 0, 0);
        yard.drop(0);
        Check.equal("none is needed", yard.reached(), 0);
        Check.equal("both stay", yard.about(0, 2), 2);
        Check.equal("with their words", yard.word(2), 2);
        yard.make(0, 0, 0);
        Check.equal("a new one comes behind", yard.thing(0, 1), 4);
        Check.equal("the car is emptied", yard.step(), 2);
        Check.equal("car 0", yard.about(0, 2), 0);
        yard.drop(0);
        Check.equal("one stays", yard.told(2), 1);
        Check.equal("the train is emptied", yard.step(), 1);
        Check.equal("none stays", yard.told(2), 0);
    }

    private static void labels() {
        Check.sentence("Promise 3 (Terms)", "LABELS are 1, 2, 3 .. as the THINGS are made.");
        Run yard = new Run();
        Check.equal("none yet", yard.told(9), 0);
        for (int label = 1; label < 4; label++) {
            Check.equal("label", yard.make(0, 0, 0), label);
        }
        Check.refuses(yard, "make in 16", Check.INDEX, () -> yard.make(16, 0, 0));
        Check.refuses(yard, "make of 13", Check.ARGUMENT, () -> yard.make(0, 13, 0));
        Check.equal("the next one", yard.make(1, 0, 0), 4);
        yard.drop(0);
        yard.drop(1);
        Check.equal("all are no more", yard.step(), 4);
        Check.equal("their labels don't come again", yard.make(0, 0, 0), 5);
    }

    private static void references() {
        Check.sentence("Promises 6 and 13 (Terms)", "A REFERENCE is to a THING, or to none.");
        Run yard = Yards.two();
        Check.equal("to none at first", yard.label(0, 0), 0);
        yard.set(0, 0, 15);
        Check.equal("to a thing", yard.label(0, 0), 2);
        yard.set(0, 0, 0);
        Check.equal("to its own thing", yard.label(0, 0), 1);
        yard.set(0, 0, 7);
        Check.equal("to none again", yard.label(0, 0), 0);
        Check.equal("get of none", yard.get(15, 0, 0), 0);
        Check.refuses(yard, "thing of none", Check.STATE, () -> yard.thing(15, 0));
    }

    private static void registers() {
        Check.sentence("Promises 3 to 5 (Terms)",
                "16 REGISTERS, 0 .. 15, hold a THING each, or none. All is done by way of them.");
        Run yard = new Run();
        for (int r = 0; r < 16; r++) {
            Check.equal("register " + r + " at first", yard.drop(r), 0);
            yard.make(r, 0, 0);
        }
        for (int r = 0; r < 16; r++) {
            Check.equal("register " + r, yard.thing(r, 0), r + 1);
        }
        Check.equal("copy", yard.copy(15, 0), 1);
        Check.equal("two hold the same", yard.thing(15, 0), 1);
        for (int r : new int[] {-1, 16}) {
            Check.refuses(yard, "make in " + r, Check.INDEX, () -> yard.make(r, 0, 0));
            Check.refuses(yard, "copy to " + r, Check.INDEX, () -> yard.copy(r, 0));
            Check.refuses(yard, "copy from " + r, Check.INDEX, () -> yard.copy(0, r));
            Check.refuses(yard, "drop of " + r, Check.INDEX, () -> yard.drop(r));
        }
        Check.equal("register 0 still", yard.thing(0, 0), 1);
    }

    /** Cars 0 and 1 are train 1, car 2 is train 2; things 1 and 2 are in car 0, 3 in car 1, 4 in car 2. */
    private static void whatACarRemembers() {
        Check.sentence("Promises 16 and 17 (Terms)", "A CAR REMEMBERS the REFERENCES, by their PLACES, that are in CARS"
                + " behind it in ORDER and are to THINGS in it.");
        Run yard = rememberStart();
        yard.set(1, 0, 0);
        yard.set(0, 0, 0);
        Check.equal("references in the car itself", yard.about(0, 3), 0);
        yard.set(0, 1, 2);
        Check.equal("a reference in the car before", yard.about(1, 3), 0);
        yard.set(2, 0, 0);
        Check.equal("one in the next car of the train", yard.about(0, 3), 1);
        Check.equal("it", yard.remembered(0, 0), 34);
        yard.set(3, 11, 1);
        Check.equal("one in another train", yard.about(0, 3), 2);
        Check.equal("it", yard.remembered(0, 1), 77);
        yard.drop(3);
        Check.equal("one in a thing that none needs", yard.about(0, 3), 2);
        yard.set(2, 0, 9);
        Check.equal("one that is to none now", yard.about(0, 3), 1);
        Check.equal("the other", yard.remembered(0, 0), 77);
        yard.set(2, 0, 2);
        Check.equal("one that is to another car now", yard.about(0, 3), 1);
    }

    private static Run rememberStart() {
        Run yard = new Run();
        yard.length(2);
        Yards.large(yard, 0);
        yard.make(1, 2, 2);
        Yards.large(yard, 2);
        Yards.large(yard, 3);
        return yard;
    }

    private static void theFirstExceptionOfSeveral() {
        Check.sentence("Promises 2 to 20 (Terms)",
                "Methods throw what their comments name, the one named first when several would do;");
        Run yard = Yards.two();
        Check.refuses(yard, "make: register, amount", Check.INDEX, () -> yard.make(16, 13, 0));
        Check.refuses(yard, "make: amount alone", Check.ARGUMENT, () -> yard.make(15, 13, 0));
        Check.refuses(yard, "set: of, none held, reference", Check.INDEX, () -> yard.set(3, 2, 16));
        Check.refuses(yard, "set: of, reference", Check.INDEX, () -> yard.set(0, 2, -1));
        Check.refuses(yard, "set: register, reference", Check.INDEX, () -> yard.set(16, 2, 0));
        Check.refuses(yard, "set: none held, reference", Check.STATE, () -> yard.set(3, 2, 0));
        Check.refuses(yard, "set: reference alone", Check.ARGUMENT, () -> yard.set(0, 2, 15));
        Check.refuses(yard, "get: to, none held, reference", Check.INDEX, () -> yard.get(16, 3, 2));
        Check.refuses(yard, "get: to, reference", Check.INDEX, () -> yard.get(-1, 0, 2));
        Check.refuses(yard, "get: register, reference", Check.INDEX, () -> yard.get(0, 16, 2));
        Check.refuses(yard, "get: none held, reference", Check.STATE, () -> yard.get(0, 3, 2));
        Check.refuses(yard, "get: reference alone", Check.ARGUMENT, () -> yard.get(3, 0, 2));
        Check.refuses(yard, "label: register, reference", Check.INDEX, () -> yard.label(16, 2));
        Check.refuses(yard, "label: none held, reference", Check.STATE, () -> yard.label(3, 2));
        Check.refuses(yard, "put: register, number", Check.INDEX, () -> yard.put(16, 3, 1));
        Check.refuses(yard, "put: none held, number", Check.STATE, () -> yard.put(3, 3, 1));
        Check.refuses(yard, "number: register, number", Check.INDEX, () -> yard.number(16, 3));
        Check.refuses(yard, "number: none held, number", Check.STATE, () -> yard.number(3, 3));
        Check.refuses(yard, "thing: what, none held", Check.INDEX, () -> yard.thing(3, 5));
        Check.refuses(yard, "thing: none held", Check.STATE, () -> yard.thing(3, 4));
    }

    /** The yard has one free car, so that a make that is taken does steps. */
    private static void whatThrowsChangesNothing() {
        Check.sentence("Promises 2 to 20 (Terms)", "a call that throws, or answers NONE, changes nothing");
        Run yard = Yards.largeOnes(15);
        for (int k = 0; k < 24; k++) {
            Yards.large(yard, 15);
        }
        yard.drop(15);
        Check.equal("one car is free", yard.told(1), 1);
        Check.refuses(yard, "make in 16", Check.INDEX, () -> yard.make(16, 12, 12));
        Check.refuses(yard, "make of 13", Check.ARGUMENT, () -> yard.make(15, 12, 13));
        Check.refuses(yard, "set to 16", Check.INDEX, () -> yard.set(0, 0, 16));
        Check.refuses(yard, "set of none", Check.STATE, () -> yard.set(15, 0, 1));
        Check.refuses(yard, "set of 12", Check.ARGUMENT, () -> yard.set(0, 12, 1));
        Check.refuses(yard, "get into 16", Check.INDEX, () -> yard.get(16, 0, 0));
        Check.refuses(yard, "get of none", Check.STATE, () -> yard.get(0, 15, 0));
        Check.refuses(yard, "get of 12", Check.ARGUMENT, () -> yard.get(0, 0, 12));
        Check.refuses(yard, "put of 12", Check.ARGUMENT, () -> yard.put(0, 12, 7));
        Check.refuses(yard, "put of none", Check.STATE, () -> yard.put(15, 0, 7));
        Check.refuses(yard, "length(0)", Check.ARGUMENT, () -> yard.length(0));
        Check.refuses(yard, "collect(101)", Check.ARGUMENT, () -> yard.collect(101));
        Check.equal("no steps were done", yard.told(3), 0);
        Check.equal("make that is taken", yard.make(15, 12, 12), 40);
        Check.isTrue("it did steps", yard.told(3) > 0);
    }

    private static void whatAnswersNoneChangesNothing() {
        Check.sentence("Promises 10, 17 and 18 (Terms)", "a call that throws, or answers NONE, changes nothing");
        Run yard = new Run();
        Check.answersNone(yard, "step without a train", yard::step);
        Check.equal("no step was done", yard.told(3), 0);
        yard.make(0, 1, 0);
        Check.answersNone(yard, "remembered", () -> yard.remembered(0, 0));
        Check.answersNone(yard, "word of a reference to none", () -> yard.word(2));
    }

    private static void putThatAnswersNoneChanges() {
        Check.sentence("Promise 8 (Terms)", "(but for put(), and the STEPS of make()).");
        Run yard = Yards.two();
        yard.put(0, 1, -1);
        Check.equal("put over -1", yard.put(0, 1, 5), -1);
        Check.equal("number then", yard.number(0, 1), 5);
        yard.put(0, 1, -1);
        Check.answersNone(yard, "number that is -1", () -> yard.number(0, 1));
    }

    private static void makeThatAnswersNoneHasStepped() {
        Check.sentence("Promise 3 (Terms)", "(but for put(), and the STEPS of make()).");
        Run yard = BoundaryMaking.allNeeded();
        Run other = yard.again();
        Check.equal("make", yard.make(2, 12, 12), -1);
        Check.equal("collect of as many steps", other.collect(39), 0);
        Check.equal("the yard behind both", Picture.of(yard), Picture.of(other));
        Check.equal("steps", yard.told(3), 39);
    }
}
