import java.util.Random;

/** Promises 1 to 20: long mixed runs, with every answer and, now and then, the whole yard compared to the Model. */
public final class ModelTest {
    private static final int RUNS = 160;
    /** So many calls of each run are left for Picture, which makes the run again and asks more. */
    private static final int LEFT = 100;
    private static final int TURNS_A_PICTURE = 10;
    private static int nones = 0;
    private static int squeezes = 0;
    private static int wholes = 0;
    private static int secondRules = 0;
    private static int thirdRules = 0;
    private static int newTrains = 0;

    public static void main(String[] args) {
        for (int run = 0; run < RUNS; run++) {
            oneRun(run);
        }
        Check.isTrue("things could not be made: " + nones, nones > 20);
        Check.isTrue("things went where room was left: " + squeezes, squeezes > 20);
        Check.isTrue("trains went as a whole: " + wholes, wholes > 20);
        Check.isTrue("the second rule moved: " + secondRules, secondRules > 20);
        Check.isTrue("the third rule moved: " + thirdRules, thirdRules > 20);
        Check.isTrue("steps made trains: " + newTrains, newTrains > 20);
        Check.end();
    }

    private static void oneRun(int run) {
        Random random = new Random(run);
        Run yard = new Run();
        Model model = new Model();
        int most = 1 + random.nextInt(12);
        int makes = 10 + random.nextInt(60);
        int drops = random.nextInt(10);
        int steps = run % 3 == 0 ? 1 : random.nextInt(15);
        if (run % 4 == 0) {
            crowd("run " + run + ", crowding", yard, model, random);
        }
        for (int turn = 1; yard.callsLeft() > LEFT; turn++) {
            String name = "run " + run + ", turn " + turn;
            int dice = random.nextInt(makes + drops + steps + 60);
            if (dice < makes) {
                make(name, yard, model, random, most);
            } else if (dice < makes + drops) {
                drop(name, yard, model, random.nextInt(16));
            } else if (dice < makes + drops + steps) {
                stepOrCollect(name, yard, model, random);
            } else if (dice < makes + drops + steps + 2) {
                int length = 1 + random.nextInt(random.nextBoolean() ? 5 : 40);
                Check.equal(name + ": length", yard.length(length), model.length);
                model.length = length;
            } else {
                touch(name, yard, model, random);
            }
            if (turn % TURNS_A_PICTURE == 0 || yard.callsLeft() <= LEFT) {
                Check.equal(name + ": the yard", Picture.of(yard), model.picture());
            }
        }
        squeezes += model.squeezes;
        wholes += model.whole;
        secondRules += model.secondRules;
        thirdRules += model.thirdRules;
        newTrains += model.newTrainsInSteps;
    }

    /** Fills nearly all cars with rows of things, each of which refers to the one before, so that all are needed. */
    private static void crowd(String name, Run yard, Model model, Random random) {
        int rows = 1 + random.nextInt(14);
        while (model.free() > 2 && yard.callsLeft() > 2 * LEFT) {
            int register = random.nextInt(rows);
            Check.equal(name + ": copy", yard.copy(15, register), label(model.registers[register]));
            model.registers[15] = model.registers[register];
            int references = 1 + random.nextInt(12);
            int numbers = 5 + random.nextInt(8);
            int label = model.make(register, references, numbers);
            Check.equal(name + ": make", yard.make(register, references, numbers), label);
            set(name, yard, model, register, random.nextInt(references), 15);
        }
    }

    private static void make(String name, Run yard, Model model, Random random, int most) {
        int register = random.nextInt(16);
        int references = random.nextInt(most + 1);
        int numbers = random.nextInt(13);
        int label = model.make(register, references, numbers);
        Check.equal(name + ": make", yard.make(register, references, numbers), label);
        if (label == Model.NONE) {
            nones++;
        } else {
            for (int i = random.nextInt(5); i < numbers; i += 5) {
                int v = random.nextInt();
                model.registers[register].numbers[i] = v;
                Check.equal(name + ": put", yard.put(register, i, v), 0);
            }
            for (int i = 0; i < references && random.nextBoolean(); i++) {
                set(name, yard, model, register, i, random.nextInt(16));
            }
        }
    }

    private static void drop(String name, Run yard, Model model, int register) {
        Check.equal(name + ": drop", yard.drop(register), label(model.registers[register]));
        model.registers[register] = null;
    }

    private static void stepOrCollect(String name, Run yard, Model model, Random random) {
        if (random.nextInt(4) != 0) {
            int due = model.canStep() ? model.step() : Model.NONE;
            Check.equal(name + ": step", yard.step(), due);
        } else {
            int n = random.nextInt(random.nextBoolean() ? 5 : 101);
            Check.equal(name + ": collect", yard.collect(n), model.collect(n));
        }
    }

    private static void touch(String name, Run yard, Model model, Random random) {
        int to = random.nextInt(16);
        int from = random.nextInt(16);
        Model.Thing thing = model.registers[from];
        int count = thing == null ? 0 : thing.references.length;
        int turn = random.nextInt(10);
        if (turn == 0) {
            Check.equal(name + ": copy", yard.copy(to, from), label(thing));
            model.registers[to] = thing;
        } else if (count > 0 && turn < 5) {
            int i = random.nextInt(count);
            Check.equal(name + ": label", yard.label(from, i), label(thing.references[i]));
            Check.equal(name + ": get", yard.get(to, from, i), label(thing.references[i]));
            model.registers[to] = thing.references[i];
        } else if (count > 0) {
            set(name, yard, model, from, random.nextInt(count), to);
        }
    }

    private static void set(String name, Run yard, Model model, int register, int i, int of) {
        Model.Thing thing = model.registers[register];
        Check.equal(name + ": set", yard.set(register, i, of), label(thing.references[i]));
        thing.references[i] = model.registers[of];
    }

    private static int label(Model.Thing thing) {
        return thing == null ? 0 : thing.label;
    }
}
