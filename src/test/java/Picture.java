import java.util.function.ToIntFunction;

/** All that can be asked of a yard without changing it, as a text. It asks new objects, on which the run is made again. */
final class Picture {
    private static final int CARS = 40;
    private static final int WORDS = 1280;
    private static final int REGISTERS = 16;

    private final Run run;
    private final StringBuilder text = new StringBuilder();
    private Run twin;

    private Picture(Run run) {
        this.run = run;
        twin = run.again();
    }

    static String of(Run run) {
        Picture picture = new Picture(run);
        picture.addTold();
        picture.addTrains();
        picture.addRegisters();
        for (int car = 0; car < CARS; car++) {
            picture.addCar(car);
        }
        picture.add("length", y -> y.length(1));
        return picture.text.append('\n').toString();
    }

    /** What some calls that change the yard would answer, and how it would be then. */
    static String later(Run run) {
        Run other = run.again();
        int label = other.make(7, 12, 12);
        int lost = other.step();
        int second = other.make(8, 1, 0);
        int more = other.collect(0);
        return "later " + label + ' ' + lost + ' ' + second + ' ' + more + '\n' + of(other);
    }

    private int ask(ToIntFunction<TrainYard> question) {
        if (twin.callsLeft() <= 0) {
            twin = run.again();
        }
        return twin.call(question);
    }

    private void add(String name, ToIntFunction<TrainYard> question) {
        int answer = ask(question);
        text.append(name).append(' ').append(answer);
    }

    private void addTold() {
        text.append("told");
        for (int k = 0; k < 10; k++) {
            int what = k;
            add("", y -> y.told(what));
        }
        add(" reached", TrainYard::reached);
        text.append('\n');
    }

    private void addTrains() {
        int trains = ask(y -> y.told(0));
        for (int t = 0; t < trains; t++) {
            int i = t;
            add("train", y -> y.train(i, 0));
            add(" things", y -> y.train(i, 2));
            text.append(" cars");
            int cars = ask(y -> y.train(i, 1));
            for (int c = 0; c < cars; c++) {
                int k = c;
                add("", y -> y.car(i, k));
            }
            text.append('\n');
        }
    }

    private void addRegisters() {
        text.append("registers");
        for (int r = 0; r < REGISTERS; r++) {
            int register = r;
            try {
                add("", y -> y.thing(register, 0));
                add("@", y -> y.thing(register, 1));
            } catch (IllegalStateException e) {
                text.append(" none");
            }
        }
        text.append('\n');
    }

    private void addCar(int car) {
        text.append("car ").append(car);
        for (int k = 0; k < 5; k++) {
            int what = k;
            add("", y -> y.about(car, what));
        }
        text.append(" remembers");
        int count = ask(y -> y.about(car, 3));
        for (int n = 0; n <= count; n++) {
            int k = n;
            add("", y -> y.remembered(car, k));
        }
        text.append(" words");
        for (int p = 32 * car; p < 32 * car + 32 && p < WORDS; p++) {
            int place = p;
            add("", y -> y.word(place));
        }
        text.append('\n');
    }
}
