/** All that can be asked of a yard without changing it, as a text. */
final class Picture {
    private static final int CARS = 40;
    private static final int WORDS = 1280;
    private static final int REGISTERS = 16;

    private Picture() {
    }

    static String of(TrainYard yard) {
        StringBuilder text = new StringBuilder();
        text.append("told");
        for (int what = 0; what < 10; what++) {
            text.append(' ').append(yard.told(what));
        }
        text.append(" reached ").append(yard.reached()).append('\n');
        addTrains(yard, text);
        addRegisters(yard, text);
        for (int car = 0; car < CARS; car++) {
            addCar(yard, car, text);
        }
        return text.toString();
    }

    private static void addTrains(TrainYard yard, StringBuilder text) {
        int trains = yard.told(0);
        for (int i = 0; i < trains; i++) {
            text.append("train ").append(yard.train(i, 0)).append(" things ").append(yard.train(i, 2)).append(" cars");
            int cars = yard.train(i, 1);
            for (int k = 0; k < cars; k++) {
                text.append(' ').append(yard.car(i, k));
            }
            text.append('\n');
        }
    }

    private static void addRegisters(TrainYard yard, StringBuilder text) {
        text.append("registers");
        for (int r = 0; r < REGISTERS; r++) {
            int label = yard.copy(r, r);
            text.append(' ').append(label);
            if (label != 0) {
                text.append('@').append(yard.thing(r, 1));
            }
        }
        text.append('\n');
    }

    private static void addCar(TrainYard yard, int car, StringBuilder text) {
        text.append("car ").append(car);
        for (int what = 0; what < 5; what++) {
            text.append(' ').append(yard.about(car, what));
        }
        text.append(" remembers");
        int count = yard.about(car, 3);
        for (int k = 0; k <= count; k++) {
            text.append(' ').append(yard.remembered(car, k));
        }
        text.append(" words");
        for (int place = 32 * car; place < 32 * car + 32 && place < WORDS; place++) {
            text.append(' ').append(yard.word(place));
        }
        text.append('\n');
    }
}
