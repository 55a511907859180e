import java.util.ArrayList;
import java.util.Comparator;
import java.util.List;

/**
 * The document told a second time, with things that hold things: slow, built in another way than the program, and
 * with pictures of the same form as those of Picture.
 */
final class Model {
    static final int NONE = -1;

    static final class Thing {
        int label;
        Thing[] references;
        int[] numbers;
        Car car;
        int place;

        int size() {
            return 2 + references.length + numbers.length;
        }
    }

    static final class Car {
        int number;
        Train train;
        final List<Thing> things = new ArrayList<>();

        int room() {
            int room = 32;
            for (Thing thing : things) {
                room -= thing.size();
            }
            return room;
        }
    }

    static final class Train {
        int number;
        final List<Car> cars = new ArrayList<>();
    }

    /** A reference as it was found: whose, which one, and its place then. */
    record Reference(Thing of, int i, int place) {
        Thing target() {
            return of.references[i];
        }
    }

    final Car[] cars = new Car[40];
    final List<Train> trains = new ArrayList<>();
    final Thing[] registers = new Thing[16];
    int length = 4;
    int steps;
    int whole;
    int gone;
    int moved;
    int movedWords;
    int trainsMade;
    int labels;
    /** How often the rarer turns were taken, for the test to see that it has come to all of them. */
    int squeezes;
    int thirdRules;
    int secondRules;
    int newTrainsInSteps;
    private Car emptied;

    Model() {
        for (int c = 0; c < 40; c++) {
            cars[c] = new Car();
            cars[c].number = c;
        }
    }

    List<Car> inOrder() {
        List<Car> all = new ArrayList<>();
        for (Train train : trains) {
            all.addAll(train.cars);
        }
        return all;
    }

    int free() {
        return 40 - inOrder().size();
    }

    Car leastFree() {
        for (Car car : cars) {
            if (car.train == null) {
                return car;
            }
        }
        throw new AssertionError("no car is free");
    }

    List<Reference> references() {
        List<Reference> all = new ArrayList<>();
        for (Car car : inOrder()) {
            for (Thing thing : car.things) {
                for (int i = 0; i < thing.references.length; i++) {
                    all.add(new Reference(thing, i, thing.place + 2 + i));
                }
            }
        }
        all.sort(Comparator.comparingInt(Reference::place));
        return all;
    }

    private void layInto(Thing thing, Car car) {
        thing.place = 32 * car.number + 32 - car.room();
        thing.car = car;
        car.things.add(thing);
    }

    private Car coupleTo(Train train) {
        Car car = leastFree();
        car.train = train;
        train.cars.add(car);
        return car;
    }

    private Train newTrain() {
        Train train = new Train();
        trainsMade++;
        train.number = trainsMade;
        trains.add(train);
        coupleTo(train);
        return train;
    }

    private static <T> T last(List<T> list) {
        return list.get(list.size() - 1);
    }

    private boolean lastHasRoom(int size) {
        List<Car> all = inOrder();
        return !all.isEmpty() && last(all).room() >= size;
    }

    int make(int register, int references, int numbers) {
        int size = 2 + references + numbers;
        if (!lastHasRoom(size) && free() <= 1) {
            int most = inOrder().size();
            int done = 0;
            while (done < most && !lastHasRoom(size) && free() < 2 && canStep()) {
                step();
                done++;
            }
            if (!lastHasRoom(size) && free() < 2) {
                return NONE;
            }
        }
        Thing thing = new Thing();
        thing.references = new Thing[references];
        thing.numbers = new int[numbers];
        labels++;
        thing.label = labels;
        if (lastHasRoom(size)) {
            layInto(thing, last(inOrder()));
        } else if (trains.isEmpty() || last(trains).cars.size() >= length) {
            layInto(thing, newTrain().cars.get(0));
        } else {
            layInto(thing, coupleTo(last(trains)));
        }
        registers[register] = thing;
        return thing.label;
    }

    boolean canStep() {
        return !trains.isEmpty() && free() > 0;
    }

    int collect(int n) {
        int most = n == 0 ? inOrder().size() : n;
        int lost = 0;
        for (int done = 0; done < most && canStep(); done++) {
            lost += step();
        }
        return lost;
    }

    private boolean isNeeded(Train train) {
        for (Thing thing : registers) {
            if (thing != null && thing.car.train == train) {
                return true;
            }
        }
        for (Reference reference : references()) {
            Thing target = reference.target();
            if (target != null && target.car.train == train && reference.of().car.train != train) {
                return true;
            }
        }
        return false;
    }

    int step() {
        steps++;
        Train first = trains.get(0);
        int lost = 0;
        if (!isNeeded(first)) {
            for (Car car : first.cars) {
                lost += car.things.size();
                car.things.clear();
                car.train = null;
            }
            trains.remove(0);
            whole++;
        } else {
            lost = empty(first);
        }
        gone += lost;
        return lost;
    }

    private int empty(Train first) {
        emptied = first.cars.get(0);
        List<Reference> before = references();
        int here = emptied.things.size();
        int movedBefore = moved;
        boolean come = false;
        for (int r = 0; r < 16; r++) {
            Thing thing = registers[r];
            if (thing != null && thing.car == emptied) {
                if (!come && last(trains) == first) {
                    newTrain();
                    newTrainsInSteps++;
                }
                come = true;
                moveAll(thing, last(trains));
            }
        }
        for (Reference reference : before) {
            Thing target = reference.target();
            if (target != null && target.car == emptied && reference.of().car.train != first) {
                secondRules++;
                moveAll(target, reference.of().car.train);
            }
        }
        for (Reference reference : before) {
            Thing target = reference.target();
            Car from = reference.of().car;
            if (target != null && target.car == emptied && from.train == first && from != emptied) {
                thirdRules++;
                moveAll(target, first);
            }
        }
        emptied.things.clear();
        emptied.train = null;
        first.cars.remove(0);
        if (first.cars.isEmpty()) {
            trains.remove(first);
        }
        emptied = null;
        return here - (moved - movedBefore);
    }

    private void moveAll(Thing root, Train into) {
        List<Thing> row = new ArrayList<>();
        move(root, into);
        row.add(root);
        while (!row.isEmpty()) {
            Thing thing = row.remove(0);
            for (Thing target : thing.references) {
                if (target != null && target.car == emptied) {
                    move(target, thing.car.train);
                    row.add(target);
                }
            }
        }
    }

    private void move(Thing thing, Train into) {
        moved++;
        movedWords += thing.size();
        layInto(thing, carFor(thing.size(), into));
    }

    private Car carFor(int size, Train into) {
        Car end = last(into.cars);
        if (end != emptied && end.room() >= size) {
            return end;
        }
        if (free() > 0) {
            return coupleTo(into);
        }
        squeezes++;
        List<Car> all = inOrder();
        for (int k = all.size() - 1; k >= 0; k--) {
            if (all.get(k) != emptied && all.get(k).room() >= size) {
                return all.get(k);
            }
        }
        throw new AssertionError("no car has the room");
    }

    int reached() {
        List<Thing> row = new ArrayList<>();
        for (Thing thing : registers) {
            if (thing != null && !row.contains(thing)) {
                row.add(thing);
            }
        }
        for (int k = 0; k < row.size(); k++) {
            for (Thing target : row.get(k).references) {
                if (target != null && !row.contains(target)) {
                    row.add(target);
                }
            }
        }
        return row.size();
    }

    private int thingsInTrains() {
        int found = 0;
        for (Car car : inOrder()) {
            found += car.things.size();
        }
        return found;
    }

    String picture() {
        StringBuilder text = new StringBuilder("told");
        int[] told = {trains.size(), free(), thingsInTrains(), steps, whole, gone, moved, movedWords, trainsMade, labels};
        for (int answer : told) {
            text.append(' ').append(answer);
        }
        text.append(" reached ").append(reached()).append('\n');
        for (Train train : trains) {
            int things = 0;
            for (Car car : train.cars) {
                things += car.things.size();
            }
            text.append("train ").append(train.number).append(" things ").append(things).append(" cars");
            for (Car car : train.cars) {
                text.append(' ').append(car.number);
            }
            text.append('\n');
        }
        text.append("registers");
        for (Thing thing : registers) {
            text.append(' ').append(thing == null ? "none" : thing.label + "@ " + thing.place);
        }
        text.append('\n');
        List<Car> order = inOrder();
        List<Reference> all = references();
        for (Car car : cars) {
            addCar(car, order, all, text);
        }
        return text.append("length ").append(length).append('\n').toString();
    }

    private static void addCar(Car car, List<Car> order, List<Reference> all, StringBuilder text) {
        List<Integer> places = new ArrayList<>();
        for (Reference reference : all) {
            Thing target = reference.target();
            if (target != null && target.car == car && order.indexOf(reference.of().car) > order.indexOf(car)) {
                places.add(reference.place());
            }
        }
        text.append("car ").append(car.number).append(' ').append(car.train == null ? 0 : car.train.number);
        text.append(' ').append(car.room()).append(' ').append(car.things.size()).append(' ').append(places.size());
        text.append(' ').append(car.things.isEmpty() ? 0 : last(car.things).label).append(" remembers");
        for (int place : places) {
            text.append(' ').append(place);
        }
        text.append(" -1 words");
        for (Thing thing : car.things) {
            text.append(' ').append(thing.label).append(' ');
            text.append(thing.references.length + 16 * thing.numbers.length);
            for (Thing target : thing.references) {
                text.append(' ').append(target == null ? NONE : target.place);
            }
            for (int number : thing.numbers) {
                text.append(' ').append(number);
            }
        }
        for (int k = 0; k < car.room(); k++) {
            text.append(" 0");
        }
        text.append('\n');
    }
}
