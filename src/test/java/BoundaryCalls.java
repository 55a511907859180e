/** Promises 1 to 11: the calls that change a yard. */
final class BoundaryCalls {
    private static final String NO_REGISTER = "IndexOutOfBoundsException: there is no such REGISTER.";
    private static final String NO_REFERENCE = "IllegalArgumentException: there is no such REFERENCE.";
    private static final int[] NO_REGISTERS = {-1, 16, Check.LOW, Check.HIGH};

    private BoundaryCalls() {
    }

    static void all() {
        newObject();
        newObjectsAreApart();
        lengthIs();
        lengthWas();
        lengthRefused();
        madeThing();
        madeOverOldWords();
        makeAnswers();
        heldWhileStepping();
        makeWithoutRegister();
        makeOfTooMany();
        copy();
        copyWithoutRegister();
        drop();
        dropWithoutRegister();
        set();
        setWithoutRegister();
        setInNone();
        setWithoutReference();
        get();
        getWithoutRegister();
        getFromNone();
        getWithoutReference();
        put();
        putWithoutRegister();
        putInNone();
        putWithoutNumber();
        number();
        numberThrows();
        step();
        collectTillNoTrain();
        collectTillDone();
        collectAsManyAsCars();
        collectWithOneFreeCar();
        collectRefused();
    }

    private static void newObject() {
        Check.sentence("Promise 1", "All CARS are FREE, REGISTERS hold none.");
        Run yard = new Run();
        Check.equal("free cars", yard.told(1), 40);
        for (int car = 0; car < 40; car++) {
            Check.equal("train of car " + car, yard.about(car, 0), 0);
            Check.equal("things of car " + car, yard.about(car, 2), 0);
        }
        Check.equal("trains", yard.told(0), 0);
        for (int r = 0; r < 16; r++) {
            int register = r;
            Check.refuses(yard, "thing in " + r, Check.STATE, () -> yard.thing(register, 0));
            Check.equal("copy of " + r, yard.copy(r, 15 - r), 0);
        }
        Check.equal("reached", yard.reached(), 0);
    }

    private static void newObjectsAreApart() {
        Check.sentence("Promise 1", "All CARS are FREE, REGISTERS hold none.");
        TrainYard first = new TrainYard();
        first.make(0, 1, 1);
        first.length(7);
        TrainYard second = new TrainYard();
        Check.equal("free cars of the second", second.told(1), 40);
        Check.equal("register 0 of the second", second.drop(0), 0);
        Check.equal("length of the second", second.length(9), 4);
        Check.equal("label in the second", second.make(0, 0, 0), 1);
        Check.equal("register 0 of the first", first.thing(0, 3), 1);
        Check.equal("length of the first", first.length(1), 7);
    }

    private static void lengthIs() {
        Check.sentence("Promise 2", "LENGTH is n.");
        for (int n : new int[] {1, 2, 38, 39, 40}) {
            Run yard = new Run();
            yard.length(n);
            for (int car = 0; car < 39; car++) {
                Yards.large(yard, 0);
            }
            Check.equal("cars of train 1, length " + n, yard.train(0, 1), Math.min(n, 39));
            Check.equal("trains, length " + n, yard.told(0), (39 + n - 1) / n);
        }
    }

    private static void lengthWas() {
        Check.sentence("Promise 2", "Answers what it was.");
        Run yard = new Run();
        Check.equal("the first time", yard.length(40), 4);
        Check.equal("then", yard.length(40), 40);
        Check.equal("then", yard.length(1), 40);
        Check.equal("then", yard.length(4), 1);
    }

    private static void lengthRefused() {
        Check.sentence("Promise 2", "IllegalArgumentException: it is not 1 .. 40.");
        Run yard = Yards.two();
        yard.length(1);
        Check.refuses(yard, "length(0)", Check.ARGUMENT, () -> yard.length(0));
        Check.equal("length(40)", yard.length(40), 1);
        Check.refuses(yard, "length(41)", Check.ARGUMENT, () -> yard.length(41));
        Check.refuses(yard, "length(-1)", Check.ARGUMENT, () -> yard.length(-1));
        Check.refuses(yard, "length(least)", Check.ARGUMENT, () -> yard.length(Check.LOW));
        Check.refuses(yard, "length(most)", Check.ARGUMENT, () -> yard.length(Check.HIGH));
        Check.equal("length(1)", yard.length(1), 40);
    }

    private static void madeThing() {
        Check.sentence("Promise 3", "A REGISTER holds a new THING with so many REFERENCES, to none, and NUMBERS, 0.");
        for (int n : new int[] {0, 1, 12}) {
            for (int m : new int[] {0, 1, 12}) {
                Run yard = new Run();
                yard.make(15, n, m);
                Check.equal("references", yard.thing(15, 3), n);
                Check.equal("numbers", yard.thing(15, 4), m);
                for (int i = 0; i < n; i++) {
                    Check.equal("reference " + i, yard.label(15, i), 0);
                }
                for (int i = 0; i < m; i++) {
                    Check.equal("number " + i, yard.number(15, i), 0);
                }
                Check.refuses(yard, "label " + n, Check.ARGUMENT, () -> yard.label(15, n));
                Check.refuses(yard, "number " + m, Check.ARGUMENT, () -> yard.number(15, m));
            }
        }
    }

    /** Where references and numbers were, others come to be. */
    private static void madeOverOldWords() {
        Check.sentence("Promise 3", "A REGISTER holds a new THING with so many REFERENCES, to none, and NUMBERS, 0.");
        Run yard = fullOfOldWords();
        yard.make(0, 1, 12);
        Check.equal("place", yard.thing(0, 1), 0);
        Check.equal("reference", yard.label(0, 0), 0);
        for (int i = 0; i < 12; i++) {
            Check.equal("number " + i, yard.number(0, i), 0);
        }
        yard.make(2, 12, 0);
        Check.equal("place", yard.thing(2, 1), 15);
        for (int i = 0; i < 12; i++) {
            Check.equal("reference " + i, yard.label(2, i), 0);
        }
        Run numbers = fullOfOldWords();
        numbers.make(0, 0, 12);
        for (int i = 0; i < 12; i++) {
            numbers.put(0, i, 32);
        }
        Check.equal("numbers where references were are none", numbers.about(1, 3), 0);
        numbers.drop(1);
        Check.equal("and keep nothing", numbers.step(), 1);
        Check.equal("a second train went", numbers.told(4), 2);
        Check.equal("number then", numbers.number(0, 11), 32);
    }

    /** Train 1, in car 0, has gone; it was full of references and numbers. Register 1 holds thing 2 in car 1. */
    private static Run fullOfOldWords() {
        Run yard = Yards.largeOnes(2);
        for (int i = 0; i < 12; i++) {
            yard.set(0, i, 1);
            yard.put(0, i, 77);
        }
        yard.drop(0);
        Check.equal("step", yard.step(), 1);
        return yard;
    }

    private static void makeAnswers() {
        Check.sentence("Promise 3", "Answers its LABEL; NONE when it can't be made");
        Run yard = BoundaryMaking.allNeeded();
        Check.equal("can't be made", yard.make(5, 0, 0), TrainYard.NONE);
        Check.equal("register 5", yard.copy(5, 5), 0);
        yard.drop(0);
        for (int k = 0; k < 8; k++) {
            yard.collect(100);
        }
        Check.equal("can be made", yard.make(5, 0, 0), 79);
        Check.equal("register 5 then", yard.thing(5, 0), 79);
    }

    /** Register 0 holds the first thing of 39, all large, in trains of their own. */
    private static void heldWhileStepping() {
        Check.sentence("Promise 3", "(the REGISTER holds what it held while STEPS are done).");
        Run yard = new Run();
        yard.length(1);
        Yards.large(yard, 0);
        for (int car = 1; car < 39; car++) {
            Yards.large(yard, 1);
        }
        Run other = yard.again();
        Check.equal("make in register 0", yard.make(0, 12, 12), 40);
        Check.equal("thing 1 was moved", yard.told(6), 1);
        Check.equal("so that a second step was due", yard.told(3), 2);
        Check.equal("register 0 then", yard.thing(0, 0), 40);
        other.drop(0);
        Check.equal("make in register 0, which holds none", other.make(0, 12, 12), 40);
        Check.equal("nothing was moved", other.told(6), 0);
        Check.equal("one step", other.told(3), 1);
        Run none = BoundaryMaking.allNeeded();
        none.make(0, 12, 12);
        Check.equal("register 0, when it can't be made", none.thing(0, 0), 77);
        Check.equal("reached", none.reached(), 78);
    }

    private static void makeWithoutRegister() {
        Check.sentence("Promise 3", NO_REGISTER);
        Run yard = new Run();
        Check.equal("make in 0", yard.make(0, 1, 1), 1);
        Check.equal("make in 15", yard.make(15, 1, 1), 2);
        for (int r : NO_REGISTERS) {
            Check.refuses(yard, "make in " + r, Check.INDEX, () -> yard.make(r, 1, 1));
        }
        Check.equal("the next label", yard.make(0, 1, 1), 3);
    }

    private static void makeOfTooMany() {
        Check.sentence("Promise 3", "IllegalArgumentException: there are not 0 .. 12 of each.");
        Run yard = new Run();
        Check.equal("0 of each", yard.make(0, 0, 0), 1);
        Check.equal("12 of each", yard.make(0, 12, 12), 2);
        for (int n : new int[] {-1, 13, Check.LOW, Check.HIGH}) {
            Check.refuses(yard, "make of " + n + " and 0", Check.ARGUMENT, () -> yard.make(0, n, 0));
            Check.refuses(yard, "make of 0 and " + n, Check.ARGUMENT, () -> yard.make(0, 0, n));
            Check.refuses(yard, "make of " + n + " and 12", Check.ARGUMENT, () -> yard.make(0, n, 12));
            Check.refuses(yard, "make of 12 and " + n, Check.ARGUMENT, () -> yard.make(0, 12, n));
        }
        Check.refuses(yard, "make of 13 and -1", Check.ARGUMENT, () -> yard.make(0, 13, -1));
        Check.equal("the next label", yard.make(0, 0, 12), 3);
    }

    private static void copy() {
        Check.sentence("Promise 4", "REGISTER to holds what REGISTER from holds. Answers its LABEL, 0 for none.");
        Run yard = Yards.two();
        Check.equal("copy of 15 to 0", yard.copy(0, 15), 2);
        Check.equal("register 0", yard.thing(0, 0), 2);
        Check.equal("register 15", yard.thing(15, 0), 2);
        Check.equal("copy to itself", yard.copy(15, 15), 2);
        Check.equal("copy of none", yard.copy(15, 1), 0);
        Check.refuses(yard, "thing in 15", Check.STATE, () -> yard.thing(15, 0));
        Check.equal("copy of none to itself", yard.copy(15, 15), 0);
        Check.equal("register 0 still", yard.thing(0, 0), 2);
    }

    private static void copyWithoutRegister() {
        Check.sentence("Promise 4", NO_REGISTER);
        Run yard = Yards.two();
        for (int r : NO_REGISTERS) {
            Check.refuses(yard, "copy to " + r, Check.INDEX, () -> yard.copy(r, 0));
            Check.refuses(yard, "copy from " + r, Check.INDEX, () -> yard.copy(0, r));
            Check.refuses(yard, "copy from and to " + r, Check.INDEX, () -> yard.copy(r, r));
        }
        Check.equal("copy of 0 to 15", yard.copy(15, 0), 1);
    }

    private static void drop() {
        Check.sentence("Promise 5", "A REGISTER holds none. Answers the LABEL of what it held, 0 for none.");
        Run yard = Yards.two();
        Check.equal("drop of 15", yard.drop(15), 2);
        Check.refuses(yard, "thing in 15", Check.STATE, () -> yard.thing(15, 0));
        Check.equal("drop of 15 again", yard.drop(15), 0);
        Check.equal("drop of 0", yard.drop(0), 1);
        Check.equal("drop of 0 again", yard.drop(0), 0);
        Check.equal("the things stay", yard.told(2), 2);
    }

    private static void dropWithoutRegister() {
        Check.sentence("Promise 5", NO_REGISTER);
        Run yard = Yards.two();
        for (int r : NO_REGISTERS) {
            Check.refuses(yard, "drop of " + r, Check.INDEX, () -> yard.drop(r));
        }
        Check.equal("drop of 0", yard.drop(0), 1);
    }

    private static void set() {
        Check.sentence("Promise 6", "REFERENCE i of the THING in a REGISTER is to the THING in REGISTER of, or to none."
                + " Answers the LABEL of that to which it was, 0 for none.");
        Run yard = Yards.two();
        Check.equal("set of none", yard.set(0, 0, 15), 0);
        Check.equal("label", yard.label(0, 0), 2);
        Check.equal("the other", yard.label(0, 1), 0);
        Check.equal("set of thing 2, to itself", yard.set(0, 0, 0), 2);
        Check.equal("label", yard.label(0, 0), 1);
        Check.equal("set of thing 1, to none", yard.set(0, 0, 14), 1);
        Check.equal("label", yard.label(0, 0), 0);
        Check.equal("set of none, to none", yard.set(0, 0, 14), 0);
        Check.equal("set of the last", yard.set(0, 1, 15), 0);
        yard.drop(15);
        Check.equal("it stays when the register holds none", yard.label(0, 1), 2);
    }

    private static void setWithoutRegister() {
        Check.sentence("Promise 6", NO_REGISTER);
        Run yard = Yards.two();
        for (int r : NO_REGISTERS) {
            Check.refuses(yard, "set in " + r, Check.INDEX, () -> yard.set(r, 0, 0));
            Check.refuses(yard, "set to " + r, Check.INDEX, () -> yard.set(0, 0, r));
        }
        Check.equal("set in 0 to 15", yard.set(0, 0, 15), 0);
        yard.copy(15, 0);
        Check.equal("set in 15 to 0", yard.set(15, 0, 0), 2);
    }

    private static void setInNone() {
        Check.sentence("Promise 6", "IllegalStateException: the first one holds none.");
        Run yard = Yards.two();
        Check.refuses(yard, "set in none", Check.STATE, () -> yard.set(1, 0, 0));
        Check.equal("to none is fine", yard.set(0, 0, 1), 0);
        yard.copy(1, 0);
        Check.equal("set in 1", yard.set(1, 0, 0), 0);
        yard.drop(1);
        Check.refuses(yard, "set in none again", Check.STATE, () -> yard.set(1, 0, 0));
    }

    private static void setWithoutReference() {
        Check.sentence("Promise 6", NO_REFERENCE);
        Run yard = Yards.two();
        yard.make(1, 12, 0);
        Check.equal("set of 0 of 2", yard.set(0, 0, 15), 0);
        Check.equal("set of 1 of 2", yard.set(0, 1, 15), 0);
        Check.refuses(yard, "set of 2 of 2", Check.ARGUMENT, () -> yard.set(0, 2, 0));
        Check.refuses(yard, "set of -1", Check.ARGUMENT, () -> yard.set(0, -1, 0));
        Check.refuses(yard, "set of the least", Check.ARGUMENT, () -> yard.set(0, Check.LOW, 0));
        Check.refuses(yard, "set of the most", Check.ARGUMENT, () -> yard.set(0, Check.HIGH, 0));
        Check.refuses(yard, "set of 0 of none", Check.ARGUMENT, () -> yard.set(15, 0, 0));
        Check.equal("set of 11 of 12", yard.set(1, 11, 0), 0);
        Check.refuses(yard, "set of 12 of 12", Check.ARGUMENT, () -> yard.set(1, 12, 0));
        Check.equal("number 0 of thing 1", yard.number(0, 0), 0);
    }

    private static void get() {
        Check.sentence("Promise 7", "REGISTER to holds the THING to which REFERENCE i of the THING in a REGISTER is."
                + " Answers its LABEL, 0 for none.");
        Run yard = Yards.two();
        yard.set(0, 1, 15);
        Check.equal("get of the last", yard.get(9, 0, 1), 2);
        Check.equal("register 9", yard.thing(9, 0), 2);
        Check.equal("get of none", yard.get(9, 0, 0), 0);
        Check.refuses(yard, "thing in 9", Check.STATE, () -> yard.thing(9, 0));
        Check.equal("get over the register itself", yard.get(0, 0, 1), 2);
        Check.equal("register 0", yard.thing(0, 0), 2);
    }

    private static void getWithoutRegister() {
        Check.sentence("Promise 7", NO_REGISTER);
        Run yard = Yards.two();
        yard.set(0, 0, 15);
        for (int r : NO_REGISTERS) {
            Check.refuses(yard, "get to " + r, Check.INDEX, () -> yard.get(r, 0, 0));
            Check.refuses(yard, "get from " + r, Check.INDEX, () -> yard.get(0, r, 0));
        }
        Check.equal("get to 15", yard.get(15, 0, 0), 2);
        yard.copy(15, 0);
        Check.equal("get from 15 to 0", yard.get(0, 15, 0), 2);
    }

    private static void getFromNone() {
        Check.sentence("Promise 7", "IllegalStateException: REGISTER register holds none.");
        Run yard = Yards.two();
        yard.set(0, 0, 15);
        Check.refuses(yard, "get from none", Check.STATE, () -> yard.get(0, 1, 0));
        Check.equal("get to one that holds none", yard.get(1, 0, 0), 2);
        Check.refuses(yard, "get from it, without a reference", Check.ARGUMENT, () -> yard.get(0, 1, 0));
    }

    private static void getWithoutReference() {
        Check.sentence("Promise 7", NO_REFERENCE);
        Run yard = Yards.two();
        yard.set(0, 1, 15);
        Check.refuses(yard, "get of -1", Check.ARGUMENT, () -> yard.get(0, 0, -1));
        Check.refuses(yard, "get of 2 of 2", Check.ARGUMENT, () -> yard.get(0, 0, 2));
        Check.refuses(yard, "get of the least", Check.ARGUMENT, () -> yard.get(0, 0, Check.LOW));
        Check.refuses(yard, "get of the most", Check.ARGUMENT, () -> yard.get(0, 0, Check.HIGH));
        Check.refuses(yard, "get of 0 of none", Check.ARGUMENT, () -> yard.get(0, 15, 0));
        Check.equal("get of 0 of 2", yard.get(1, 0, 0), 0);
        Check.equal("get of 1 of 2", yard.get(1, 0, 1), 2);
    }

    private static void put() {
        Check.sentence("Promise 8", "NUMBER i of the THING in a REGISTER becomes v. Answers what it was.");
        Run yard = Yards.two();
        int was = 0;
        for (int v : new int[] {Check.HIGH, Check.LOW, -1, 0, 1, 1280}) {
            Check.equal("put of " + v, yard.put(0, 2, v), was);
            Check.equal("number", yard.number(0, 2), v);
            was = v;
        }
        Check.equal("the first", yard.put(0, 0, 5), 0);
        Check.equal("the one between", yard.number(0, 1), 0);
        Check.equal("what lies behind", yard.thing(15, 0), 2);
        Check.equal("the last reference", yard.label(0, 1), 0);
    }

    private static void putWithoutRegister() {
        Check.sentence("Promise 8", NO_REGISTER);
        Run yard = Yards.two();
        yard.make(15, 0, 1);
        Check.equal("put in 0", yard.put(0, 0, 3), 0);
        Check.equal("put in 15", yard.put(15, 0, 4), 0);
        for (int r : NO_REGISTERS) {
            Check.refuses(yard, "put in " + r, Check.INDEX, () -> yard.put(r, 0, 5));
        }
    }

    private static void putInNone() {
        Check.sentence("Promise 8", "IllegalStateException: it holds none.");
        Run yard = Yards.two();
        Check.refuses(yard, "put in none", Check.STATE, () -> yard.put(1, 0, 5));
        yard.copy(1, 0);
        Check.equal("put in 1", yard.put(1, 0, 5), 0);
        yard.drop(1);
        Check.refuses(yard, "put in none again", Check.STATE, () -> yard.put(1, 0, 6));
        Check.equal("number", yard.number(0, 0), 5);
    }

    private static void putWithoutNumber() {
        Check.sentence("Promise 8", "IllegalArgumentException: there is no such NUMBER.");
        Run yard = Yards.two();
        yard.make(1, 12, 12);
        Check.equal("put of 2 of 3", yard.put(0, 2, 5), 0);
        Check.refuses(yard, "put of 3 of 3", Check.ARGUMENT, () -> yard.put(0, 3, 5));
        Check.refuses(yard, "put of -1", Check.ARGUMENT, () -> yard.put(0, -1, 5));
        Check.refuses(yard, "put of the least", Check.ARGUMENT, () -> yard.put(0, Check.LOW, 5));
        Check.refuses(yard, "put of the most", Check.ARGUMENT, () -> yard.put(0, Check.HIGH, 5));
        Check.refuses(yard, "put of 0 of none", Check.ARGUMENT, () -> yard.put(15, 0, 5));
        Check.equal("put of 11 of 12", yard.put(1, 11, 6), 0);
        Check.refuses(yard, "put of 12 of 12", Check.ARGUMENT, () -> yard.put(1, 12, 5));
    }

    private static void number() {
        Check.sentence("Promise 9", "NUMBER i of the THING in a REGISTER.");
        Run yard = Yards.two();
        yard.put(0, 0, 6);
        yard.put(0, 2, Check.LOW);
        Check.equal("the first", yard.number(0, 0), 6);
        Check.equal("the second", yard.number(0, 1), 0);
        Check.equal("the last", yard.number(0, 2), Check.LOW);
        yard.step();
        Check.equal("the last, moved", yard.number(0, 2), Check.LOW);
    }

    private static void numberThrows() {
        Check.sentence("Promise 9", "Throws as put() does.");
        Run yard = Yards.two();
        yard.make(14, 12, 12);
        for (int r : NO_REGISTERS) {
            Check.refuses(yard, "number in " + r, Check.INDEX, () -> yard.number(r, 0));
        }
        Check.refuses(yard, "number in none", Check.STATE, () -> yard.number(1, 0));
        Check.refuses(yard, "number -1", Check.ARGUMENT, () -> yard.number(0, -1));
        Check.refuses(yard, "number 3 of 3", Check.ARGUMENT, () -> yard.number(0, 3));
        Check.refuses(yard, "number of the least", Check.ARGUMENT, () -> yard.number(0, Check.LOW));
        Check.refuses(yard, "number of the most", Check.ARGUMENT, () -> yard.number(0, Check.HIGH));
        Check.refuses(yard, "number 0 of none", Check.ARGUMENT, () -> yard.number(15, 0));
        Check.equal("number 11 of 12", yard.number(14, 11), 0);
        Check.refuses(yard, "number 12 of 12", Check.ARGUMENT, () -> yard.number(14, 12));
    }

    private static void step() {
        Check.sentence("Promise 10", "A STEP is done. Answers how many THINGS are no more by it; NONE when there is no"
                + " TRAIN, or no FREE CAR.");
        Run yard = new Run();
        Check.answersNone(yard, "step without a train", yard::step);
        for (int k = 0; k < 16; k++) {
            yard.make(k % 2, 0, 0);
        }
        Check.equal("14 of 16 are no more", yard.step(), 14);
        Check.equal("none is no more", yard.step(), 0);
        yard.drop(0);
        Check.equal("one is no more", yard.step(), 1);
        yard.drop(1);
        Check.equal("the last is no more", yard.step(), 1);
        Check.answersNone(yard, "step without a train again", yard::step);
        Check.equal("steps", yard.told(3), 4);
    }

    /** Some trains of one car, with nothing that is held. */
    private static Run useless(int trains) {
        Run yard = new Run();
        yard.length(1);
        for (int k = 0; k < trains; k++) {
            Yards.large(yard, 0);
        }
        yard.drop(0);
        return yard;
    }

    private static void collectTillNoTrain() {
        Check.sentence("Promise 11", "STEPS are done, one by one, till there is no TRAIN,");
        Run none = new Run();
        for (int n : new int[] {0, 1, 100}) {
            Check.equal("without a train, collect(" + n + ")", none.collect(n), 0);
        }
        Check.equal("steps", none.told(3), 0);
        for (int n = 4; n < 7; n++) {
            Run yard = useless(5);
            Check.equal("collect(" + n + ")", yard.collect(n), Math.min(n, 5));
            Check.equal("steps", yard.told(3), Math.min(n, 5));
            Check.equal("trains", yard.told(0), n == 4 ? 1 : 0);
        }
    }

    private static void collectTillDone() {
        Check.sentence("Promise 11", "or n are done,");
        for (int n : new int[] {1, 2, 99, 100}) {
            Run yard = Yards.two();
            Check.equal("collect(" + n + ")", yard.collect(n), 0);
            Check.equal("steps", yard.told(3), n);
            Check.equal("trains made", yard.told(8), n + 1);
        }
        Check.sentence("Promise 11", "Answers how many THINGS are no more by them.");
        Run yard = useless(39);
        Check.equal("collect(38)", yard.collect(38), 38);
        Check.equal("collect(1)", yard.collect(1), 1);
        Check.equal("collect(1) without a train", yard.collect(1), 0);
    }

    /** Two of three trains, of two cars each, go in a step each; so fewer cars are left than steps are still due. */
    private static void collectAsManyAsCars() {
        Check.sentence("Promise 11", "or, if n is 0, as many as CARS are in TRAINS now.");
        Run none = new Run();
        Check.equal("without a car", none.collect(0), 0);
        Check.equal("steps", none.told(3), 0);
        Run one = Yards.two();
        one.collect(0);
        Check.equal("steps with one car", one.told(3), 1);
        one.collect(0);
        Check.equal("steps with one car again", one.told(3), 2);
        Run yard = new Run();
        yard.length(2);
        for (int car = 0; car < 6; car++) {
            Yards.large(yard, 5);
        }
        Check.equal("free cars", yard.told(1), 34);
        Check.equal("collect", yard.collect(0), 5);
        Check.equal("six steps, though one car is left behind the third", yard.told(3), 6);
        Check.equal("free cars then", yard.told(1), 39);
        yard.collect(0);
        Check.equal("one more step", yard.told(3), 7);
    }

    private static void collectWithOneFreeCar() {
        Check.sentence("Promise 11", "or no FREE CAR,");
        Run yard = BoundaryMaking.allNeeded();
        Check.equal("one is free", yard.told(1), 1);
        Check.equal("collect", yard.collect(100), 0);
        Check.equal("one is free behind each step, so that all are done", yard.told(3), 100);
        Check.equal("one is free", yard.told(1), 1);
    }

    private static void collectRefused() {
        Check.sentence("Promise 11", "IllegalArgumentException: n is not 0 .. 100.");
        Run yard = useless(3);
        Check.refuses(yard, "collect(-1)", Check.ARGUMENT, () -> yard.collect(-1));
        Check.refuses(yard, "collect(101)", Check.ARGUMENT, () -> yard.collect(101));
        Check.refuses(yard, "collect(least)", Check.ARGUMENT, () -> yard.collect(Check.LOW));
        Check.refuses(yard, "collect(most)", Check.ARGUMENT, () -> yard.collect(Check.HIGH));
        Check.equal("no step was done", yard.told(3), 0);
        Check.equal("collect(100)", yard.collect(100), 3);
        Check.equal("collect(0)", yard.collect(0), 0);
        Run empty = new Run();
        Check.refuses(empty, "collect(101) without a train", Check.ARGUMENT, () -> empty.collect(101));
    }
}
