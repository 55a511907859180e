import java.util.Arrays;

/** A heap of cars and trains that is emptied step by step. The words in capitals are the document's terms. */
public final class TrainYard {
    public static final int NONE = -1;

    private static final int CARS = 40;
    private static final int CAR_WORDS = 32;
    private static final int WORDS = CARS * CAR_WORDS;
    private static final int REGISTERS = 16;
    private static final int MOST_PARTS = 12;
    private static final int MOST_STEPS = 100;
    /** Two words stand before the REFERENCES: the LABEL, and how many there are of both. */
    private static final int HEAD = 2;
    private static final int NUMBERS_UNIT = 16;

    private final Yard yard = new Yard();
    private final Search search = new Search();
    private int fullTrain = 4;
    private int labels = 0;

    public TrainYard() {
    }

    public int length(int n) throws IllegalArgumentException {
        if (n < 1 || n > CARS) {
            throw new IllegalArgumentException("a length is 1 .. 40");
        }
        int before = fullTrain;
        fullTrain = n;
        return before;
    }

    public int make(int register, int references, int numbers)
            throws IndexOutOfBoundsException, IllegalArgumentException {
        needRegister(register);
        if (!isAmount(references) || !isAmount(numbers)) {
            throw new IllegalArgumentException("there are 0 .. 12 of each");
        }
        int size = HEAD + references + numbers;
        int mostSteps = yard.row.count;
        for (int done = 0; done < mostSteps && !yard.takesNew(size) && yard.canStep(); done++) {
            yard.doStep();
        }
        if (!yard.takesNew(size)) {
            return NONE;
        }
        int car = yard.carForNew(size, fullTrain);
        labels++;
        yard.held[register] = yard.freight.load(car, labels, references, numbers);
        return labels;
    }

    public int copy(int to, int from) throws IndexOutOfBoundsException {
        needRegister(to);
        needRegister(from);
        yard.held[to] = yard.held[from];
        return yard.freight.labelOf(yard.held[to]);
    }

    public int drop(int register) throws IndexOutOfBoundsException {
        needRegister(register);
        int before = yard.freight.labelOf(yard.held[register]);
        yard.held[register] = NONE;
        return before;
    }

    public int set(int register, int i, int of)
            throws IndexOutOfBoundsException, IllegalStateException, IllegalArgumentException {
        needRegister(of);
        int place = placeOfReference(register, i);
        int before = yard.freight.labelOf(yard.freight.at(place));
        yard.freight.write(place, yard.held[of]);
        return before;
    }

    public int get(int to, int register, int i)
            throws IndexOutOfBoundsException, IllegalStateException, IllegalArgumentException {
        needRegister(to);
        int place = placeOfReference(register, i);
        yard.held[to] = yard.freight.at(place);
        return yard.freight.labelOf(yard.held[to]);
    }

    public int put(int register, int i, int v)
            throws IndexOutOfBoundsException, IllegalStateException, IllegalArgumentException {
        int place = placeOfNumber(register, i);
        int before = yard.freight.at(place);
        yard.freight.write(place, v);
        return before;
    }

    public int number(int register, int i)
            throws IndexOutOfBoundsException, IllegalStateException, IllegalArgumentException {
        return yard.freight.at(placeOfNumber(register, i));
    }

    public int step() {
        return yard.canStep() ? yard.doStep() : NONE;
    }

    public int collect(int n) throws IllegalArgumentException {
        if (n < 0 || n > MOST_STEPS) {
            throw new IllegalArgumentException("0 .. 100 steps are done");
        }
        int most = n == 0 ? yard.row.count : n;
        int lost = 0;
        for (int done = 0; done < most && yard.canStep(); done++) {
            lost += yard.doStep();
        }
        return lost;
    }

    public int thing(int register, int what) throws IndexOutOfBoundsException, IllegalStateException {
        needWhat(what, 4);
        int place = heldThing(register);
        switch (what) {
            case 0:
                return yard.freight.labelOf(place);
            case 1:
                return place;
            case 2:
                return yard.row.trainOf(carOf(place));
            case 3:
                return yard.freight.references(place);
            default:
                return yard.freight.numbers(place);
        }
    }

    public int label(int register, int i)
            throws IndexOutOfBoundsException, IllegalStateException, IllegalArgumentException {
        return yard.freight.labelOf(yard.freight.at(placeOfReference(register, i)));
    }

    public int train(int i, int what) throws IndexOutOfBoundsException {
        needWhat(what, 2);
        int start = startOfTrain(i);
        int number = yard.row.trainOf(yard.row.carAt(start));
        int cars = yard.row.carsOf(number);
        switch (what) {
            case 0:
                return number;
            case 1:
                return cars;
            default:
                return yard.thingsIn(start, cars);
        }
    }

    public int car(int i, int k) throws IndexOutOfBoundsException {
        int start = startOfTrain(i);
        int number = yard.row.trainOf(yard.row.carAt(start));
        if (k < 0 || k >= yard.row.carsOf(number)) {
            throw new IndexOutOfBoundsException("there is no such car in the train");
        }
        return yard.row.carAt(start + k);
    }

    public int about(int car, int what) throws IndexOutOfBoundsException {
        needCar(car);
        needWhat(what, 4);
        switch (what) {
            case 0:
                return yard.row.trainOf(car);
            case 1:
                return yard.freight.room(car);
            case 2:
                return yard.freight.things(car);
            case 3:
                return yard.countRemembered(car);
            default:
                return yard.freight.lastLabel(car);
        }
    }

    public int remembered(int car, int k) throws IndexOutOfBoundsException {
        needCar(car);
        if (k < 0 || k >= WORDS) {
            return NONE;
        }
        int place = yard.nextRemembered(car, 0);
        for (int passed = 0; passed < k && place < WORDS; passed++) {
            place = yard.nextRemembered(car, place + 1);
        }
        return place < WORDS ? place : NONE;
    }

    public int word(int place) throws IndexOutOfBoundsException {
        if (!isPlace(place)) {
            throw new IndexOutOfBoundsException("there is no such place");
        }
        return yard.freight.at(place);
    }

    public int reached() {
        return search.countFrom(yard.held, yard.freight);
    }

    public int told(int what) throws IndexOutOfBoundsException {
        needWhat(what, 9);
        switch (what) {
            case 0:
                return yard.row.countTrains();
            case 1:
                return yard.row.countFree();
            case 2:
                return yard.thingsIn(0, yard.row.count);
            case 3:
                return yard.steps;
            case 4:
                return yard.wholeTrains;
            case 5:
                return yard.thingsGone;
            case 6:
                return yard.thingsMoved;
            case 7:
                return yard.wordsMoved;
            case 8:
                return yard.row.trainsMade;
            default:
                return labels;
        }
    }

    private static void needRegister(int register) {
        if (register < 0 || register >= REGISTERS) {
            throw new IndexOutOfBoundsException("there is no such register");
        }
    }

    private static void needCar(int car) {
        if (!isCar(car)) {
            throw new IndexOutOfBoundsException("there is no such car");
        }
    }

    private static void needWhat(int what, int most) {
        if (what < 0 || what > most) {
            throw new IndexOutOfBoundsException("nothing is told by this number");
        }
    }

    private int heldThing(int register) {
        needRegister(register);
        int place = yard.held[register];
        if (place == NONE) {
            throw new IllegalStateException("the register holds none");
        }
        return place;
    }

    private int placeOfReference(int register, int i) {
        int place = heldThing(register);
        if (i < 0 || i >= yard.freight.references(place)) {
            throw new IllegalArgumentException("there is no such reference");
        }
        return place + HEAD + i;
    }

    private int placeOfNumber(int register, int i) {
        int place = heldThing(register);
        if (i < 0 || i >= yard.freight.numbers(place)) {
            throw new IllegalArgumentException("there is no such number");
        }
        return place + HEAD + yard.freight.references(place) + i;
    }

    /** Where in ORDER the i-th TRAIN begins. */
    private int startOfTrain(int i) {
        int start = yard.row.startOf(i);
        if (start == NONE) {
            throw new IndexOutOfBoundsException("there is no such train");
        }
        return start;
    }

    private static boolean isAmount(int n) {
        return n >= 0 && n <= MOST_PARTS;
    }

    private static boolean isCar(int car) {
        return car >= 0 && car < CARS;
    }

    private static boolean isPlace(int place) {
        return place >= 0 && place < WORDS;
    }

    private static int carOf(int place) {
        return isPlace(place) ? place / CAR_WORDS : NONE;
    }

    /** What lies in the CARS, word by word. A THING is told by its PLACE. */
    private static final class Freight {
        private final int[] words = new int[WORDS];
        private final boolean[] isReference = new boolean[WORDS];
        private final int[] filled = new int[CARS];
        private final int[] thingCount = new int[CARS];
        private final int[] lastThing = new int[CARS];

        int at(int place) {
            return place >= 0 && place < WORDS ? words[place] : 0;
        }

        void write(int place, int v) {
            if (place >= 0 && place < WORDS) {
                words[place] = v;
            }
        }

        int labelOf(int thing) {
            return at(thing);
        }

        int references(int thing) {
            return at(thing + 1) % NUMBERS_UNIT;
        }

        int numbers(int thing) {
            return at(thing + 1) / NUMBERS_UNIT;
        }

        int size(int thing) {
            int counts = at(thing + 1);
            return HEAD + counts % NUMBERS_UNIT + counts / NUMBERS_UNIT;
        }

        int room(int car) {
            return car >= 0 && car < CARS ? CAR_WORDS - filled[car] : 0;
        }

        int things(int car) {
            return isCar(car) ? thingCount[car] : 0;
        }

        int lastLabel(int car) {
            return things(car) == 0 ? 0 : labelOf(lastThing[car]);
        }

        /** Lays a THING behind the last one of a CAR; NONE when that has no ROOM. */
        int load(int car, int label, int references, int numbers) {
            int size = HEAD + references + numbers;
            if (room(car) < size) {
                return NONE;
            }
            int place = car * CAR_WORDS + filled[car];
            write(place, label);
            write(place + 1, references + NUMBERS_UNIT * numbers);
            int end = place + HEAD + references;
            for (int p = place + HEAD; p < end && p < WORDS; p++) {
                words[p] = NONE;
                isReference[p] = true;
            }
            filled[car] += size;
            thingCount[car]++;
            lastThing[car] = place;
            return place;
        }

        /** Lays what a THING is behind the last one of another CAR; NONE when that has no ROOM. */
        int bring(int thing, int car) {
            int place = load(car, labelOf(thing), references(thing), numbers(thing));
            if (place == NONE) {
                return NONE;
            }
            int size = size(thing);
            for (int k = HEAD; k < size; k++) {
                write(place + k, at(thing + k));
            }
            return place;
        }

        void clear(int car) {
            if (!isCar(car)) {
                return;
            }
            int start = car * CAR_WORDS;
            for (int p = start; p < start + CAR_WORDS && p < WORDS; p++) {
                words[p] = 0;
                isReference[p] = false;
            }
            filled[car] = 0;
            thingCount[car] = 0;
        }

        /** The PLACE of the first REFERENCE from a PLACE on; WORDS when there is none. */
        int nextReference(int from) {
            int place = from;
            while (place >= 0 && place < WORDS) {
                int car = place / CAR_WORDS;
                if (place % CAR_WORDS >= filled[car]) {
                    place = (car + 1) * CAR_WORDS;
                } else if (isReference[place]) {
                    return place;
                } else {
                    place++;
                }
            }
            return WORDS;
        }
    }

    /** The CARS that are in TRAINS, in ORDER. */
    private static final class Row {
        private final int[] cars = new int[CARS];
        private final int[] trains = new int[CARS];
        private int count = 0;
        private int trainsMade = 0;

        int carAt(int index) {
            return index >= 0 && index < count ? cars[index] : NONE;
        }

        int indexOf(int car) {
            for (int k = 0; k < count; k++) {
                if (cars[k] == car) {
                    return k;
                }
            }
            return NONE;
        }

        /** The NUMBER of a CAR's TRAIN, 0 when it is FREE. */
        int trainOf(int car) {
            return car >= 0 && car < CARS ? trains[car] : 0;
        }

        int firstTrain() {
            return trainOf(carAt(0));
        }

        int lastTrain() {
            return trainOf(carAt(count - 1));
        }

        int countFree() {
            return CARS - count;
        }

        int countTrains() {
            int found = 0;
            for (int k = 0; k < count; k++) {
                if (trainOf(carAt(k)) != trainOf(carAt(k - 1))) {
                    found++;
                }
            }
            return found;
        }

        /** Where in ORDER the i-th TRAIN begins; NONE when there is none such. */
        int startOf(int i) {
            int found = 0;
            for (int k = 0; k < count; k++) {
                if (trainOf(carAt(k)) != trainOf(carAt(k - 1))) {
                    if (found == i) {
                        return k;
                    }
                    found++;
                }
            }
            return NONE;
        }

        int carsOf(int number) {
            int found = 0;
            for (int k = 0; k < count; k++) {
                if (trainOf(cars[k]) == number) {
                    found++;
                }
            }
            return found;
        }

        int lastCarOf(int number) {
            for (int k = count - 1; k >= 0; k--) {
                if (trainOf(cars[k]) == number) {
                    return cars[k];
                }
            }
            return NONE;
        }

        int leastFree() {
            for (int car = 0; car < CARS; car++) {
                if (trains[car] == 0) {
                    return car;
                }
            }
            return NONE;
        }

        /** The least FREE CAR becomes the last one of a TRAIN; NONE when there is none. */
        int addCar(int number) {
            int car = leastFree();
            if (car == NONE || count >= CARS) {
                return NONE;
            }
            int at = count;
            while (at > 0 && trainOf(cars[at - 1]) > number) {
                cars[at] = cars[at - 1];
                at--;
            }
            cars[at] = car;
            trains[car] = number;
            count++;
            return car;
        }

        /** The least FREE CAR becomes a new TRAIN; NONE when there is none. */
        int addTrain() {
            if (countFree() == 0) {
                return NONE;
            }
            trainsMade++;
            return addCar(trainsMade);
        }

        void removeFirstCar() {
            int car = carAt(0);
            if (!isCar(car)) {
                return;
            }
            trains[car] = 0;
            for (int k = 1; k < count; k++) {
                cars[k - 1] = cars[k];
            }
            count--;
        }
    }

    /** The CARS, what lies in them, and what REGISTERS hold; it does the STEPS. */
    private static final class Yard {
        private final Freight freight = new Freight();
        private final Row row = new Row();
        private final int[] held = new int[REGISTERS];

        private int steps = 0;
        private int wholeTrains = 0;
        private int thingsGone = 0;
        private int thingsMoved = 0;
        private int wordsMoved = 0;

        /** The CAR that is being EMPTIED, or NONE. */
        private int emptied = NONE;
        /** For each word of that CAR: the new PLACE of the THING that began there, or NONE. */
        private final int[] newPlaces = new int[CAR_WORDS];
        /** The new PLACES of what was MOVED out of it, in this order. */
        private final int[] moved = new int[CAR_WORDS / HEAD];
        private int movedCount = 0;
        /** Of how many of these the REFERENCES have been followed. */
        private int followed = 0;

        Yard() {
            Arrays.fill(held, NONE);
        }

        /** How many THINGS are in some CARS that stand side by side in ORDER. */
        int thingsIn(int start, int cars) {
            int found = 0;
            for (int k = 0; k < cars; k++) {
                found += freight.things(row.carAt(start + k));
            }
            return found;
        }

        /** The PLACE of the first REFERENCE, from a PLACE on, that a CAR REMEMBERS; WORDS when there is none. */
        int nextRemembered(int car, int from) {
            int index = row.indexOf(car);
            for (int p = freight.nextReference(from); p < WORDS; p = freight.nextReference(p + 1)) {
                if (carOf(freight.at(p)) == car && row.indexOf(carOf(p)) > index) {
                    return p;
                }
            }
            return WORDS;
        }

        int countRemembered(int car) {
            int found = 0;
            for (int p = nextRemembered(car, 0); p < WORDS; p = nextRemembered(car, p + 1)) {
                found++;
            }
            return found;
        }

        private boolean lastHasRoom(int size) {
            return freight.room(row.carAt(row.count - 1)) >= size;
        }

        /** One CAR stays FREE when a THING is made, as no STEP can be done without. */
        boolean takesNew(int size) {
            return lastHasRoom(size) || row.countFree() >= 2;
        }

        int carForNew(int size, int fullTrain) {
            if (lastHasRoom(size)) {
                return row.carAt(row.count - 1);
            }
            int last = row.lastTrain();
            if (row.count == 0 || row.carsOf(last) >= fullTrain) {
                return row.addTrain();
            }
            return row.addCar(last);
        }

        boolean canStep() {
            return row.count > 0 && row.countFree() > 0;
        }

        /** A STEP; answers how many THINGS are no more by it. */
        int doStep() {
            int first = row.firstTrain();
            int lost;
            if (isReferredTo(first)) {
                startEmptying();
                moveHeld(first);
                moveReferredTo(first, false);
                moveReferredTo(first, true);
                lost = freight.things(emptied) - movedCount;
                endEmptying();
            } else {
                lost = dropFirstTrain(first);
            }
            steps++;
            thingsGone += lost;
            return lost;
        }

        /** Whether a REGISTER, or a REFERENCE in another TRAIN, is to a THING in a TRAIN. */
        private boolean isReferredTo(int number) {
            for (int r = 0; r < REGISTERS; r++) {
                if (row.trainOf(carOf(held[r])) == number) {
                    return true;
                }
            }
            for (int p = freight.nextReference(0); p < WORDS; p = freight.nextReference(p + 1)) {
                if (row.trainOf(carOf(freight.at(p))) == number && row.trainOf(carOf(p)) != number) {
                    return true;
                }
            }
            return false;
        }

        private int dropFirstTrain(int number) {
            int cars = row.carsOf(number);
            int lost = thingsIn(0, cars);
            for (int k = 0; k < cars; k++) {
                freight.clear(row.carAt(0));
                row.removeFirstCar();
            }
            wholeTrains++;
            return lost;
        }

        private void startEmptying() {
            emptied = row.carAt(0);
            Arrays.fill(newPlaces, NONE);
            movedCount = 0;
            followed = 0;
        }

        private void endEmptying() {
            for (int r = 0; r < REGISTERS; r++) {
                held[r] = placeNow(held[r]);
            }
            freight.clear(emptied);
            for (int p = freight.nextReference(0); p < WORDS; p = freight.nextReference(p + 1)) {
                freight.write(p, placeNow(freight.at(p)));
            }
            row.removeFirstCar();
            emptied = NONE;
        }

        private int placeNow(int place) {
            return place >= 0 && carOf(place) == emptied ? newPlaces[place % CAR_WORDS] : place;
        }

        private void moveHeld(int first) {
            for (int r = 0; r < REGISTERS; r++) {
                if (isStillThere(held[r])) {
                    if (row.lastTrain() == first) {
                        row.addTrain();
                    }
                    moveWithOthers(held[r], row.lastTrain());
                }
            }
        }

        /** What MOVED THINGS refer to has been MOVED too, so that only REFERENCES that were there before count. */
        private void moveReferredTo(int first, boolean fromFirst) {
            for (int p = freight.nextReference(0); p < WORDS; p = freight.nextReference(p + 1)) {
                int from = carOf(p);
                int number = row.trainOf(from);
                if (from != emptied && (number == first) == fromFirst) {
                    moveWithOthers(freight.at(p), number);
                }
            }
        }

        private boolean isStillThere(int place) {
            return place >= 0 && carOf(place) == emptied && newPlaces[place % CAR_WORDS] == NONE;
        }

        /** Moves a THING, if it is still there, and behind it what can be come to from it. */
        private void moveWithOthers(int thing, int number) {
            moveOne(thing, number);
            for (; followed < movedCount && followed < moved.length; followed++) {
                int from = moved[followed];
                int end = from + HEAD + freight.references(from);
                for (int p = from + HEAD; p < end; p++) {
                    moveOne(freight.at(p), row.trainOf(carOf(from)));
                }
            }
        }

        private void moveOne(int thing, int number) {
            if (!isStillThere(thing) || movedCount >= moved.length) {
                return;
            }
            int size = freight.size(thing);
            int place = freight.bring(thing, carInto(number, size));
            if (place == NONE) {
                return;
            }
            newPlaces[thing % CAR_WORDS] = place;
            moved[movedCount] = place;
            movedCount++;
            thingsMoved++;
            wordsMoved += size;
        }

        /** The CAR that INTO a TRAIN means for so many words. */
        private int carInto(int number, int size) {
            int last = row.lastCarOf(number);
            if (roomInStep(last) >= size) {
                return last;
            }
            if (row.countFree() > 0) {
                return row.addCar(number);
            }
            for (int k = row.count - 1; k >= 0; k--) {
                if (roomInStep(row.carAt(k)) >= size) {
                    return row.carAt(k);
                }
            }
            return NONE;
        }

        private int roomInStep(int car) {
            return car == emptied ? 0 : freight.room(car);
        }
    }

    /** Counts what can be come to. */
    private static final class Search {
        /** For each PLACE, the last round in which the THING there was found. */
        private final int[] rounds = new int[WORDS];
        private final int[] found = new int[WORDS / HEAD];
        private int foundCount = 0;
        private int round = 0;

        int countFrom(int[] held, Freight freight) {
            round++;
            foundCount = 0;
            for (int place : held) {
                visit(place);
            }
            for (int k = 0; k < foundCount && k < found.length; k++) {
                int end = found[k] + HEAD + freight.references(found[k]);
                for (int p = found[k] + HEAD; p < end; p++) {
                    visit(freight.at(p));
                }
            }
            return foundCount;
        }

        private void visit(int place) {
            if (isPlace(place) && rounds[place] != round && foundCount < found.length) {
                rounds[place] = round;
                found[foundCount] = place;
                foundCount++;
            }
        }
    }
}
