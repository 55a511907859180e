/** Promises 12 to 20: the calls that ask. */
final class BoundaryQuestions {
    private static final int[] NO_REGISTERS = {-1, 16, Check.LOW, Check.HIGH};
    private static final int[] NO_CARS = {-1, 40, Check.LOW, Check.HIGH};

    private BoundaryQuestions() {
    }

    static void all() {
        thing();
        thingOfNoOther();
        thingOfNone();
        label();
        labelThrows();
        train();
        trainOfNone();
        trainOfNoOther();
        car();
        carOfNone();
        aboutTrain();
        aboutRoom();
        aboutThings();
        aboutRemembered();
        aboutLast();
        aboutNone();
        remembered();
        rememberedNone();
        rememberedByNoCar();
        word();
        wordOfReference();
        wordOfNothing();
        wordOfNone();
        reached();
        reachedInARow();
        toldAtFirst();
        toldTrains();
        toldThings();
        toldSteps();
        toldGone();
        toldMoved();
        toldMade();
        toldNothing();
    }

    private static void answers(String what, Run yard, int register, int... due) {
        for (int k = 0; k < due.length; k++) {
            Check.equal(what + ", " + k, yard.thing(register, k), due[k]);
        }
    }

    private static void thing() {
        Check.sentence("Promise 12", "Of the THING in a REGISTER: its LABEL (what = 0), its PLACE (1), its TRAIN's NUMBER"
                + " (2), how many REFERENCES (3), NUMBERS (4).");
        Run yard = new Run();
        yard.length(1);
        yard.make(0, 12, 0);
        yard.make(1, 0, 12);
        yard.make(15, 12, 12);
        answers("thing 1", yard, 0, 1, 0, 1, 12, 0);
        answers("thing 2", yard, 1, 2, 14, 1, 0, 12);
        answers("thing 3", yard, 15, 3, 32, 2, 12, 12);
        yard.drop(1);
        yard.step();
        answers("thing 1, moved", yard, 0, 1, 64, 2, 12, 0);
        answers("thing 3, not moved", yard, 15, 3, 32, 2, 12, 12);
    }

    private static void thingOfNoOther() {
        Check.sentence("Promise 12", "IndexOutOfBoundsException: there is no such REGISTER, or another what.");
        Run yard = Yards.two();
        Check.equal("what 0 of register 15", yard.thing(15, 0), 2);
        Check.equal("what 4 of register 0", yard.thing(0, 4), 3);
        for (int r : NO_REGISTERS) {
            Check.refuses(yard, "register " + r, Check.INDEX, () -> yard.thing(r, 0));
        }
        for (int what : new int[] {-1, 5, Check.LOW, Check.HIGH}) {
            Check.refuses(yard, "what " + what, Check.INDEX, () -> yard.thing(0, what));
        }
    }

    private static void thingOfNone() {
        Check.sentence("Promise 12", "IllegalStateException: it holds none.");
        Run yard = Yards.two();
        for (int k = 0; k < 5; k++) {
            int what = k;
            Check.refuses(yard, "what " + k, Check.STATE, () -> yard.thing(1, what));
        }
        yard.copy(1, 0);
        Check.equal("it holds one", yard.thing(1, 0), 1);
        yard.drop(1);
        Check.refuses(yard, "it holds none again", Check.STATE, () -> yard.thing(1, 0));
    }

    private static void label() {
        Check.sentence("Promise 13", "The LABEL of the THING to which REFERENCE i of the THING in a REGISTER is; 0 for none.");
        Run yard = Yards.two();
        Check.equal("none", yard.label(0, 0), 0);
        yard.set(0, 0, 15);
        yard.set(0, 1, 0);
        Check.equal("the first", yard.label(0, 0), 2);
        Check.equal("the last, itself", yard.label(0, 1), 1);
        yard.drop(15);
        yard.step();
        Check.equal("the first, moved", yard.label(0, 0), 2);
    }

    private static void labelThrows() {
        Check.sentence("Promise 13", "Throws as get() does.");
        Run yard = Yards.two();
        yard.make(14, 12, 12);
        for (int r : NO_REGISTERS) {
            Check.refuses(yard, "register " + r, Check.INDEX, () -> yard.label(r, 0));
        }
        Check.refuses(yard, "register that holds none", Check.STATE, () -> yard.label(1, 0));
        Check.equal("1 of 2", yard.label(0, 1), 0);
        Check.refuses(yard, "2 of 2", Check.ARGUMENT, () -> yard.label(0, 2));
        Check.refuses(yard, "-1", Check.ARGUMENT, () -> yard.label(0, -1));
        Check.refuses(yard, "the least", Check.ARGUMENT, () -> yard.label(0, Check.LOW));
        Check.refuses(yard, "the most", Check.ARGUMENT, () -> yard.label(0, Check.HIGH));
        Check.refuses(yard, "0 of none", Check.ARGUMENT, () -> yard.label(15, 0));
        Check.equal("11 of 12", yard.label(14, 11), 0);
        Check.refuses(yard, "12 of 12", Check.ARGUMENT, () -> yard.label(14, 12));
    }

    /** Three trains, of two, two and one cars, with 2, 3 and 1 things. */
    private static Run threeTrains() {
        Run yard = new Run();
        yard.length(2);
        for (int car = 0; car < 4; car++) {
            Yards.large(yard, car);
        }
        yard.make(5, 2, 2);
        Yards.large(yard, 4);
        return yard;
    }

    private static void train() {
        Check.sentence("Promise 14", "The NUMBER of the i-th TRAIN of the row (what = 0), how many CARS it has (1), how"
                + " many THINGS are in it (2).");
        Run yard = threeTrains();
        int[][] due = {{1, 2, 2}, {2, 2, 3}, {3, 1, 1}};
        for (int i = 0; i < 3; i++) {
            for (int what = 0; what < 3; what++) {
                Check.equal("train " + i + ", " + what, yard.train(i, what), due[i][what]);
            }
        }
        yard.drop(0);
        yard.drop(1);
        Check.equal("step", yard.step(), 2);
        Check.equal("the first one then", yard.train(0, 0), 2);
        Check.equal("the second one then", yard.train(1, 0), 3);
    }

    private static void trainOfNone() {
        Check.sentence("Promise 14", "IndexOutOfBoundsException: there is none such,");
        Run yard = new Run();
        Check.refuses(yard, "train 0 of none", Check.INDEX, () -> yard.train(0, 0));
        yard.make(0, 0, 0);
        Check.equal("train 0 of one", yard.train(0, 0), 1);
        for (int i : new int[] {-1, 1, Check.LOW, Check.HIGH}) {
            for (int what = 0; what < 3; what++) {
                int w = what;
                Check.refuses(yard, "train " + i + " of one", Check.INDEX, () -> yard.train(i, w));
            }
        }
        yard.drop(0);
        yard.step();
        Check.refuses(yard, "train 0 of none again", Check.INDEX, () -> yard.train(0, 0));
        Run most = new Run();
        most.length(1);
        for (int car = 0; car < 39; car++) {
            Yards.large(most, 0);
        }
        Check.equal("train 38 of 39", most.train(38, 0), 39);
        Check.refuses(most, "train 39 of 39", Check.INDEX, () -> most.train(39, 0));
    }

    private static void trainOfNoOther() {
        Check.sentence("Promise 14", "or another what.");
        Run yard = Yards.two();
        Check.equal("what 0", yard.train(0, 0), 1);
        Check.equal("what 2", yard.train(0, 2), 2);
        for (int what : new int[] {-1, 3, Check.LOW, Check.HIGH}) {
            Check.refuses(yard, "what " + what, Check.INDEX, () -> yard.train(0, what));
        }
    }

    private static void car() {
        Check.sentence("Promise 15", "The number of CAR k of the i-th TRAIN of the row.");
        Run yard = threeTrains();
        int[][] due = {{0, 1}, {2, 3}, {4}};
        for (int i = 0; i < 3; i++) {
            for (int k = 0; k < due[i].length; k++) {
                Check.equal("car " + k + " of train " + i, yard.car(i, k), due[i][k]);
            }
        }
        Check.equal("two steps", yard.collect(2), 0);
        int[][] then = {{2, 3}, {4, 5, 0}};
        for (int i = 0; i < 2; i++) {
            for (int k = 0; k < then[i].length; k++) {
                Check.equal("car " + k + " of train " + i + " then", yard.car(i, k), then[i][k]);
            }
        }
    }

    private static void carOfNone() {
        Check.sentence("Promise 15", "IndexOutOfBoundsException: there is none such.");
        Run yard = new Run();
        Check.refuses(yard, "car 0 of none", Check.INDEX, () -> yard.car(0, 0));
        Run three = threeTrains();
        Check.equal("car 1 of two", three.car(1, 1), 3);
        Check.equal("car 0 of one", three.car(2, 0), 4);
        Check.refuses(three, "car 2 of two", Check.INDEX, () -> three.car(0, 2));
        Check.refuses(three, "car 1 of one", Check.INDEX, () -> three.car(2, 1));
        for (int n : new int[] {-1, 3, Check.LOW, Check.HIGH}) {
            Check.refuses(three, "car 0 of train " + n, Check.INDEX, () -> three.car(n, 0));
            Check.refuses(three, "car " + n + " of train 0", Check.INDEX, () -> three.car(0, n));
            Check.refuses(three, "car " + n + " of train 1", Check.INDEX, () -> three.car(1, n));
        }
        Run most = new Run();
        most.length(40);
        for (int car = 0; car < 39; car++) {
            Yards.large(most, 0);
        }
        Check.equal("car 38 of 39", most.car(0, 38), 38);
        Check.refuses(most, "car 39 of 39", Check.INDEX, () -> most.car(0, 39));
    }

    private static void aboutTrain() {
        Check.sentence("Promise 16", "Of a CAR: the NUMBER of its TRAIN, 0 when it is FREE (what = 0),");
        Run yard = threeTrains();
        int[] due = {1, 1, 2, 2, 3, 0};
        for (int car = 0; car < due.length; car++) {
            Check.equal("car " + car, yard.about(car, 0), due[car]);
        }
        yard.step();
        Check.equal("car 0, emptied", yard.about(0, 0), 0);
        Check.equal("car 5, now in use", yard.about(5, 0), 3);
    }

    private static void aboutRoom() {
        Check.sentence("Promise 16", "its ROOM (1; 32 when FREE),");
        Run yard = new Run();
        Check.equal("free", yard.about(0, 1), 32);
        yard.make(0, 0, 0);
        Check.equal("with 2 words", yard.about(0, 1), 30);
        Yards.large(yard, 1);
        Check.equal("with 28 words", yard.about(0, 1), 4);
        yard.make(2, 1, 1);
        Check.equal("with 32 words", yard.about(0, 1), 0);
        yard.step();
        Check.equal("free again", yard.about(0, 1), 32);
        Check.equal("the other one", yard.about(1, 1), 0);
    }

    private static void aboutThings() {
        Check.sentence("Promise 16", "how many THINGS are in it (2),");
        Run yard = new Run();
        Check.equal("without any", yard.about(0, 2), 0);
        for (int k = 1; k <= 17; k++) {
            yard.make(0, 0, 0);
            Check.equal("car 0, " + k + " made", yard.about(0, 2), Math.min(k, 16));
            Check.equal("car 1, " + k + " made", yard.about(1, 2), k == 17 ? 1 : 0);
        }
        yard.step();
        Check.equal("car 0, emptied", yard.about(0, 2), 0);
    }

    /** All references of car 1 and some of car 2 are to a thing in car 0. */
    private static void aboutRemembered() {
        Check.sentence("Promise 16", "how many REFERENCES it REMEMBERS (3),");
        Run yard = Yards.largeOnes(3);
        Check.equal("none", yard.about(0, 3), 0);
        for (int i = 0; i < 12; i++) {
            yard.set(1, i, 0);
            Check.equal("of car 1", yard.about(0, 3), i + 1);
        }
        for (int i = 0; i < 12; i++) {
            yard.set(2, i, 0);
            Check.equal("of both", yard.about(0, 3), 13 + i);
        }
        yard.set(2, 11, 9);
        Check.equal("one is to none", yard.about(0, 3), 23);
        Check.equal("car 1 remembers", yard.about(1, 3), 0);
        Check.equal("a free car remembers", yard.about(39, 3), 0);
        yard.step();
        Check.equal("car 0, emptied, remembers", yard.about(0, 3), 0);
        Check.equal("car 3 is behind all", yard.about(3, 3), 0);
    }

    private static void aboutLast() {
        Check.sentence("Promise 16", "the LABEL of its last THING (4; 0 without any).");
        Run yard = new Run();
        Check.equal("without any", yard.about(0, 4), 0);
        yard.make(1, 0, 0);
        Check.equal("with one", yard.about(0, 4), 1);
        yard.make(0, 0, 0);
        Check.equal("with two", yard.about(0, 4), 2);
        yard.drop(0);
        Check.equal("needed or not", yard.about(0, 4), 2);
        yard.step();
        Check.equal("without any again", yard.about(0, 4), 0);
        Check.equal("the other car", yard.about(1, 4), 1);
        yard.drop(1);
        yard.step();
        Check.equal("the other car, gone with its train", yard.about(1, 4), 0);
    }

    private static void aboutNone() {
        Check.sentence("Promise 16", "IndexOutOfBoundsException: there is no such CAR, or another what.");
        Run yard = Yards.two();
        Check.equal("car 0, 4", yard.about(0, 4), 2);
        Check.equal("car 39, 0", yard.about(39, 0), 0);
        for (int car : NO_CARS) {
            Check.refuses(yard, "car " + car, Check.INDEX, () -> yard.about(car, 0));
        }
        for (int what : new int[] {-1, 5, Check.LOW, Check.HIGH}) {
            Check.refuses(yard, "what " + what, Check.INDEX, () -> yard.about(0, what));
            Check.refuses(yard, "what " + what + " of a free car", Check.INDEX, () -> yard.about(39, what));
        }
    }

    private static void remembered() {
        Check.sentence("Promise 17", "The PLACE of the k-th, from 0 on, of the REFERENCES that a CAR REMEMBERS, by their"
                + " PLACES;");
        Run yard = Yards.largeOnes(3);
        for (int i = 11; i >= 0; i--) {
            yard.set(2, i, 0);
            yard.set(1, i, 0);
        }
        for (int k = 0; k < 24; k++) {
            int due = k < 12 ? 32 + 2 + k : 64 + 2 + k - 12;
            Check.equal("k = " + k, yard.remembered(0, k), due);
        }
        yard.set(1, 0, 9);
        Check.equal("k = 0, without the first", yard.remembered(0, 0), 35);
        Check.equal("k = 22, without the first", yard.remembered(0, 22), 77);
    }

    private static void rememberedNone() {
        Check.sentence("Promise 17", "NONE when there is none.");
        Run yard = Yards.largeOnes(3);
        Check.answersNone(yard, "0 of none", () -> yard.remembered(0, 0));
        yard.set(1, 4, 0);
        Check.equal("0 of one", yard.remembered(0, 0), 38);
        for (int k : new int[] {-1, 1, 2, 1279, 1280, Check.LOW, Check.HIGH}) {
            Check.answersNone(yard, k + " of one", () -> yard.remembered(0, k));
        }
        Check.answersNone(yard, "0 of a free car", () -> yard.remembered(39, 0));
        Check.answersNone(yard, "0 of the last car", () -> yard.remembered(2, 0));
    }

    private static void rememberedByNoCar() {
        Check.sentence("Promise 17", "IndexOutOfBoundsException: there is no such CAR.");
        Run yard = Yards.largeOnes(2);
        yard.set(1, 0, 0);
        Check.equal("car 0", yard.remembered(0, 0), 34);
        Check.equal("car 39", yard.remembered(39, 0), -1);
        for (int car : NO_CARS) {
            Check.refuses(yard, "car " + car, Check.INDEX, () -> yard.remembered(car, 0));
            Check.refuses(yard, "car " + car + ", no k", Check.INDEX, () -> yard.remembered(car, -1));
        }
    }

    private static void word() {
        Check.sentence("Promise 18", "What is in the word with a PLACE: a LABEL, how many (REFERENCES and 16 times NUMBERS),");
        int[][] counts = {{0, 0, 0}, {12, 0, 12}, {0, 12, 192}, {12, 12, 204}, {1, 0, 1}, {0, 1, 16}};
        Run yard = new Run();
        for (int k = 0; k < counts.length; k++) {
            yard.make(0, counts[k][0], counts[k][1]);
            int place = yard.thing(0, 1);
            Check.equal("label", yard.word(place), k + 1);
            Check.equal("how many", yard.word(place + 1), counts[k][2]);
        }
    }

    private static void wordOfReference() {
        Check.sentence("Promise 18", "of a REFERENCE the PLACE of the THING to which it is, and NONE for none, a NUMBER;");
        Run yard = Yards.two();
        Check.answersNone(yard, "a reference to none", () -> yard.word(2));
        yard.set(0, 0, 0);
        Check.equal("one to the first thing", yard.word(2), 0);
        yard.set(0, 1, 15);
        Check.equal("one to the second thing", yard.word(3), 7);
        Check.equal("a number at first", yard.word(4), 0);
        yard.put(0, 0, Check.LOW);
        yard.put(0, 2, Check.HIGH);
        Check.equal("the first number", yard.word(4), Check.LOW);
        Check.equal("the number between", yard.word(5), 0);
        Check.equal("the last number", yard.word(6), Check.HIGH);
        yard.step();
        Check.equal("the reference to the first thing, moved", yard.word(34), 32);
        Check.equal("the one to the second thing, moved", yard.word(35), 39);
    }

    private static void wordOfNothing() {
        Check.sentence("Promise 18", "0 in ROOM and FREE CARS.");
        Run yard = new Run();
        yard.make(0, 0, 1);
        yard.put(0, 0, 9);
        Check.equal("the last word of the thing", yard.word(2), 9);
        for (int place = 3; place < 65; place++) {
            Check.equal("word " + place, yard.word(place), 0);
        }
        yard.make(1, 2, 0);
        Check.equal("room no more", yard.word(6), -1);
        Check.equal("room still", yard.word(7), 0);
        yard.step();
        for (int place = 0; place < 32; place++) {
            Check.equal("word " + place + " of the emptied car", yard.word(place), 0);
        }
        yard.drop(0);
        yard.drop(1);
        yard.step();
        for (int place = 32; place < 64; place++) {
            Check.equal("word " + place + " of the train that went", yard.word(place), 0);
        }
    }

    private static void wordOfNone() {
        Check.sentence("Promise 18", "IndexOutOfBoundsException: there is none.");
        Run yard = Yards.two();
        Check.equal("word 0", yard.word(0), 1);
        Check.equal("word 1279", yard.word(1279), 0);
        for (int place : new int[] {-1, 1280, Check.LOW, Check.HIGH}) {
            Check.refuses(yard, "word " + place, Check.INDEX, () -> yard.word(place));
        }
    }

    private static void reached() {
        Check.sentence("Promise 19", "How many THINGS can be come to from the REGISTERS, by REFERENCES.");
        Run yard = new Run();
        Check.equal("of none", yard.reached(), 0);
        for (int r = 0; r < 16; r++) {
            yard.make(r, 1, 0);
            Check.equal("held", yard.reached(), r + 1);
        }
        yard.copy(1, 0);
        Check.equal("one is held twice, one isn't", yard.reached(), 15);
        yard.set(0, 0, 0);
        Check.equal("one refers to itself", yard.reached(), 15);
        yard.set(2, 0, 3);
        yard.drop(3);
        Check.equal("one is come to by a reference", yard.reached(), 15);
        yard.drop(2);
        Check.equal("both are not", yard.reached(), 13);
        for (int r = 0; r < 16; r++) {
            yard.drop(r);
        }
        Check.equal("without a register", yard.reached(), 0);
        Check.equal("though all are there", yard.told(2), 16);
    }

    /** Each thing refers to the one before; then the row is cut. */
    private static void reachedInARow() {
        Check.sentence("Promise 19", "How many THINGS can be come to from the REGISTERS, by REFERENCES.");
        Run yard = new Run();
        yard.make(0, 1, 0);
        for (int k = 1; k < 150; k++) {
            yard.copy(1, 0);
            yard.make(0, 1, 0);
            yard.set(0, 0, 1);
            if (k == 60) {
                yard.copy(2, 0);
            }
        }
        yard.drop(1);
        Check.equal("all", yard.reached(), 150);
        yard.set(2, 0, 9);
        Check.equal("from the cut on", yard.reached(), 90);
        yard.set(2, 0, 0);
        Check.equal("the cut end refers to the beginning", yard.reached(), 90);
        yard.drop(0);
        Check.equal("held at the cut alone", yard.reached(), 90);
        yard.set(2, 0, 9);
        Check.equal("and cut", yard.reached(), 1);
    }

    private static void told(String name, Run yard, int... due) {
        for (int what = 0; what < 10; what++) {
            Check.equal(name + ": told " + what, yard.told(what), due[what]);
        }
    }

    private static void toldAtFirst() {
        Check.sentence("Promise 20", "How many TRAINS there are (what = 0), FREE CARS (1), THINGS in TRAINS (2), STEPS so"
                + " far (3), TRAINS that went as a whole (4), THINGS that are no more (5), that were MOVED (6), their words"
                + " (7), TRAINS made so far (8), LABELS given so far (9).");
        Run yard = new Run();
        told("at first", yard, 0, 40, 0, 0, 0, 0, 0, 0, 0, 0);
        yard.make(0, 1, 4);
        told("one made", yard, 1, 39, 1, 0, 0, 0, 0, 0, 1, 1);
        yard.make(1, 0, 0);
        told("two made", yard, 1, 39, 2, 0, 0, 0, 0, 0, 1, 2);
        yard.drop(1);
        told("one dropped", yard, 1, 39, 2, 0, 0, 0, 0, 0, 1, 2);
        yard.step();
        told("one step", yard, 1, 39, 1, 1, 0, 1, 1, 7, 2, 2);
        yard.step();
        told("two steps", yard, 1, 39, 1, 2, 0, 1, 2, 14, 3, 2);
        yard.drop(0);
        yard.step();
        told("at last", yard, 0, 40, 0, 3, 1, 2, 2, 14, 3, 2);
        yard.step();
        told("a step that isn't done", yard, 0, 40, 0, 3, 1, 2, 2, 14, 3, 2);
    }

    private static void toldTrains() {
        Check.sentence("Promise 20", "How many TRAINS there are (what = 0), FREE CARS (1),");
        Run yard = new Run();
        yard.length(1);
        for (int k = 1; k <= 39; k++) {
            Yards.large(yard, 0);
            Check.equal("trains", yard.told(0), k);
            Check.equal("free cars", yard.told(1), 40 - k);
        }
        Yards.large(yard, 0);
        Check.equal("trains, when one had to go", yard.told(0), 39);
        Check.equal("free cars then", yard.told(1), 1);
    }

    private static void toldThings() {
        Check.sentence("Promise 20", "THINGS in TRAINS (2),");
        Run yard = new Run();
        for (int k = 1; k <= 33; k++) {
            yard.make(0, 0, 0);
            Check.equal("things", yard.told(2), k);
        }
        yard.step();
        Check.equal("things behind a step", yard.told(2), 17);
    }

    /** By step(), collect() and make(). */
    private static void toldSteps() {
        Check.sentence("Promise 20", "STEPS so far (3), TRAINS that went as a whole (4),");
        Run yard = new Run();
        yard.length(1);
        yard.step();
        for (int k = 0; k < 39; k++) {
            Yards.large(yard, k == 1 ? 1 : 0);
        }
        Check.equal("steps of making", yard.told(3), 0);
        yard.make(0, 12, 12);
        Check.equal("steps with one of make()", yard.told(3), 1);
        Check.equal("trains with one of make()", yard.told(4), 1);
        yard.step();
        Check.equal("steps with one of step()", yard.told(3), 2);
        Check.equal("trains without one that was emptied", yard.told(4), 1);
        yard.collect(5);
        Check.equal("steps with five of collect()", yard.told(3), 7);
        Check.equal("trains with five of collect()", yard.told(4), 6);
    }

    private static void toldGone() {
        Check.sentence("Promise 20", "THINGS that are no more (5),");
        Run yard = new Run();
        for (int k = 0; k < 32; k++) {
            yard.make(k == 31 ? 1 : 0, 0, 0);
        }
        yard.drop(0);
        Check.equal("none yet", yard.told(5), 0);
        yard.step();
        Check.equal("those of an emptied car", yard.told(5), 16);
        yard.drop(1);
        yard.step();
        Check.equal("those of a train that went", yard.told(5), 32);
    }

    private static void toldMoved() {
        Check.sentence("Promise 20", "that were MOVED (6), their words (7),");
        Run yard = new Run();
        yard.make(0, 12, 12);
        yard.make(1, 0, 0);
        Check.equal("none yet", yard.told(6), 0);
        yard.step();
        Check.equal("moved", yard.told(6), 2);
        Check.equal("words", yard.told(7), 28);
        yard.drop(0);
        yard.step();
        Check.equal("moved, one a second time", yard.told(6), 3);
        Check.equal("words", yard.told(7), 30);
        yard.drop(1);
        yard.step();
        Check.equal("a train that goes moves none", yard.told(6), 3);
        Check.equal("nor its words", yard.told(7), 30);
    }

    private static void toldMade() {
        Check.sentence("Promise 20", "TRAINS made so far (8), LABELS given so far (9).");
        Run yard = new Run();
        yard.length(2);
        for (int k = 0; k < 3; k++) {
            Yards.large(yard, k);
            Check.equal("trains", yard.told(8), k < 2 ? 1 : 2);
            Check.equal("labels", yard.told(9), k + 1);
        }
        yard.collect(2);
        Check.equal("trains, one of which is emptied", yard.told(8), 2);
        yard.step();
        Check.equal("trains, with one made by a step", yard.told(8), 3);
        Check.refuses(yard, "make of 13", Check.ARGUMENT, () -> yard.make(0, 13, 0));
        Check.equal("labels, when none was made", yard.told(9), 3);
    }

    private static void toldNothing() {
        Check.sentence("Promise 20", "IndexOutOfBoundsException: another what.");
        Run yard = Yards.two();
        Check.equal("what 0", yard.told(0), 1);
        Check.equal("what 9", yard.told(9), 2);
        for (int what : new int[] {-1, 10, Check.LOW, Check.HIGH}) {
            Check.refuses(yard, "what " + what, Check.INDEX, () -> yard.told(what));
        }
    }
}
