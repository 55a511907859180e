import java.lang.reflect.Constructor;
import java.lang.reflect.Field;
import java.lang.reflect.Method;
import java.lang.reflect.Modifier;
import java.util.Set;
import java.util.TreeSet;

/** Answers, edges and exceptions of every method, promise by promise. */
public final class FaceTest {
    private static final Class<IndexOutOfBoundsException> INDEX = Check.INDEX;
    private static final Class<IllegalStateException> STATE = Check.STATE;
    private static final Class<IllegalArgumentException> ARGUMENT = Check.ARGUMENT;
    private static final int LOW = Check.LOW;
    private static final int HIGH = Check.HIGH;
    private static final int[] NO_REGISTERS = {-1, 16, LOW, HIGH};

    private static final String[] FACE = {
        "public static final int NONE = -1;",
        "public TrainYard();",
        "public int length(int n) throws IllegalArgumentException;",
        "public int make(int register, int references, int numbers) throws IndexOutOfBoundsException, IllegalArgumentException;",
        "public int copy(int to, int from) throws IndexOutOfBoundsException;",
        "public int drop(int register) throws IndexOutOfBoundsException;",
        "public int set(int register, int i, int of)"
                + " throws IndexOutOfBoundsException, IllegalStateException, IllegalArgumentException;",
        "public int get(int to, int register, int i)"
                + " throws IndexOutOfBoundsException, IllegalStateException, IllegalArgumentException;",
        "public int put(int register, int i, int v)"
                + " throws IndexOutOfBoundsException, IllegalStateException, IllegalArgumentException;",
        "public int number(int register, int i)"
                + " throws IndexOutOfBoundsException, IllegalStateException, IllegalArgumentException;",
        "public int step();",
        "public int collect(int n) throws IllegalArgumentException;",
        "public int thing(int register, int what) throws IndexOutOfBoundsException, IllegalStateException;",
        "public int label(int register, int i)"
                + " throws IndexOutOfBoundsException, IllegalStateException, IllegalArgumentException;",
        "public int train(int i, int what) throws IndexOutOfBoundsException;",
        "public int car(int i, int k) throws IndexOutOfBoundsException;",
        "public int about(int car, int what) throws IndexOutOfBoundsException;",
        "public int remembered(int car, int k) throws IndexOutOfBoundsException;",
        "public int word(int place) throws IndexOutOfBoundsException;",
        "public int reached();",
        "public int told(int what) throws IndexOutOfBoundsException;",
    };

    public static void main(String[] args) {
        face();
        newObject();
        length();
        make();
        makeRefuses();
        copyAndDrop();
        setAndGetAndLabel();
        setRefuses();
        getAndLabelRefuse();
        putAndNumber();
        stepAndCollect();
        thing();
        trainAndCar();
        about();
        remembered();
        word();
        reached();
        told();
        Check.end();
    }

    /** The class has the members that the document tells, and no other but private ones. */
    private static void face() {
        Set<String> due = new TreeSet<>();
        for (String member : FACE) {
            Check.sentence("Promises 1 to 20 (The public face)", member);
            due.add(member.replaceAll("int [a-z]+(?=[,)])", "int").replace(" = -1", "").replace(", ", ","));
        }
        Check.endOfSentences();
        Set<String> found = new TreeSet<>();
        for (Field field : TrainYard.class.getDeclaredFields()) {
            addMember(found, field.getModifiers(), field.isSynthetic(), field.toGenericString());
        }
        for (Constructor<?> constructor : TrainYard.class.getDeclaredConstructors()) {
            addMember(found, constructor.getModifiers(), constructor.isSynthetic(), constructor.toGenericString());
        }
        for (Method method : TrainYard.class.getDeclaredMethods()) {
            addMember(found, method.getModifiers(), method.isSynthetic(), method.toGenericString());
        }
        Check.equal("the face", found.toString(), due.toString());
        Check.isTrue("the class is public", Modifier.isPublic(TrainYard.class.getModifiers()));
        Check.isTrue("the class is final", Modifier.isFinal(TrainYard.class.getModifiers()));
    }

    private static void addMember(Set<String> found, int modifiers, boolean synthetic, String text) {
        if (!Modifier.isPrivate(modifiers) && !synthetic) {
            found.add(text.replace("java.lang.", "").replace("TrainYard.", "").replace(", ", ",") + ";");
        }
    }

    private static Run two() {
        return Yards.two();
    }

    private static void newObject() {
        Run yard = new Run();
        Check.equal("NONE", TrainYard.NONE, -1);
        for (int what = 0; what < 10; what++) {
            Check.equal("new: told " + what, yard.told(what), what == 1 ? 40 : 0);
        }
        for (int car = 0; car < 40; car++) {
            Check.equal("new: train of car " + car, yard.about(car, 0), 0);
            Check.equal("new: room of car " + car, yard.about(car, 1), 32);
        }
        for (int register = 0; register < 16; register++) {
            Check.equal("new: register " + register, yard.drop(register), 0);
        }
    }

    private static void length() {
        Run yard = new Run();
        Check.equal("length(1)", yard.length(1), 4);
        Check.equal("length(40)", yard.length(40), 1);
        for (int n : new int[] {0, 41, -1, LOW, HIGH}) {
            Check.refuses(yard, "length(" + n + ")", ARGUMENT, () -> yard.length(n));
        }
        Check.equal("length(7)", yard.length(7), 40);
        Check.equal("length(7) again", yard.length(7), 7);
    }

    private static void make() {
        Run yard = new Run();
        Check.equal("make of the least", yard.make(0, 0, 0), 1);
        Check.equal("make of the most", yard.make(15, 12, 12), 2);
        Check.equal("references", yard.thing(15, 3), 12);
        Check.equal("numbers", yard.thing(15, 4), 12);
        for (int i = 0; i < 12; i++) {
            Check.equal("reference at first", yard.label(15, i), 0);
            Check.equal("number at first", yard.number(15, i), 0);
        }
        Check.equal("make over what is held", yard.make(0, 1, 0), 3);
        Check.equal("what is held then", yard.thing(0, 0), 3);
        Check.equal("what was held stays", yard.about(0, 2), 3);
    }

    private static void makeRefuses() {
        Run yard = two();
        for (int register : NO_REGISTERS) {
            Check.refuses(yard, "make in " + register, INDEX, () -> yard.make(register, 0, 0));
            Check.refuses(yard, "make in " + register + " of 13", INDEX, () -> yard.make(register, 13, -1));
        }
        for (int n : new int[] {-1, 13, LOW, HIGH}) {
            Check.refuses(yard, "make with references " + n, ARGUMENT, () -> yard.make(0, n, 0));
            Check.refuses(yard, "make with numbers " + n, ARGUMENT, () -> yard.make(0, 0, n));
            Check.refuses(yard, "make with both " + n, ARGUMENT, () -> yard.make(0, n, n));
        }
    }

    private static void copyAndDrop() {
        Run yard = two();
        Check.equal("copy", yard.copy(7, 0), 1);
        Check.equal("what it holds", yard.thing(7, 0), 1);
        Check.equal("copy to itself", yard.copy(7, 7), 1);
        Check.equal("copy of none", yard.copy(7, 3), 0);
        Check.refuses(yard, "thing of none", STATE, () -> yard.thing(7, 0));
        Check.equal("drop", yard.drop(15), 2);
        Check.equal("drop of none", yard.drop(15), 0);
        Check.equal("the thing stays", yard.told(2), 2);
        for (int register : NO_REGISTERS) {
            Check.refuses(yard, "copy to " + register, INDEX, () -> yard.copy(register, 0));
            Check.refuses(yard, "copy from " + register, INDEX, () -> yard.copy(5, register));
            Check.refuses(yard, "drop of " + register, INDEX, () -> yard.drop(register));
        }
    }

    private static void setAndGetAndLabel() {
        Run yard = two();
        Check.equal("set", yard.set(0, 1, 15), 0);
        Check.equal("label", yard.label(0, 1), 2);
        Check.equal("label of the other", yard.label(0, 0), 0);
        Check.equal("set to itself", yard.set(0, 1, 0), 2);
        Check.equal("get", yard.get(4, 0, 1), 1);
        Check.equal("what it holds", yard.thing(4, 0), 1);
        Check.equal("set to none", yard.set(0, 1, 9), 1);
        Check.equal("label of none", yard.label(0, 1), 0);
        Check.equal("get of none", yard.get(4, 0, 1), 0);
        Check.equal("it holds none then", yard.drop(4), 0);
        yard.set(0, 0, 15);
        Check.equal("get over the register itself", yard.get(0, 0, 0), 2);
        Check.equal("what it holds then", yard.thing(0, 0), 2);
    }

    private static void setRefuses() {
        Run yard = two();
        for (int register : NO_REGISTERS) {
            Check.refuses(yard, "set in " + register, INDEX, () -> yard.set(register, 0, 0));
            Check.refuses(yard, "set to " + register, INDEX, () -> yard.set(0, 0, register));
            Check.refuses(yard, "set in none to " + register, INDEX, () -> yard.set(3, 0, register));
            Check.refuses(yard, "set of 2 to " + register, INDEX, () -> yard.set(0, 2, register));
        }
        Check.refuses(yard, "set in none", STATE, () -> yard.set(3, 0, 0));
        Check.refuses(yard, "set of -1 in none", STATE, () -> yard.set(3, -1, 0));
        for (int i : new int[] {-1, 2, LOW, HIGH}) {
            Check.refuses(yard, "set of " + i, ARGUMENT, () -> yard.set(0, i, 15));
        }
        Check.refuses(yard, "set without references", ARGUMENT, () -> yard.set(15, 0, 0));
    }

    private static void getAndLabelRefuse() {
        Run yard = two();
        for (int register : NO_REGISTERS) {
            Check.refuses(yard, "get to " + register, INDEX, () -> yard.get(register, 0, 0));
            Check.refuses(yard, "get to " + register + " from none", INDEX, () -> yard.get(register, 3, 0));
            Check.refuses(yard, "get to " + register + " of 2", INDEX, () -> yard.get(register, 0, 2));
            Check.refuses(yard, "get from " + register, INDEX, () -> yard.get(0, register, 0));
            Check.refuses(yard, "label in " + register, INDEX, () -> yard.label(register, -1));
        }
        Check.refuses(yard, "get from none", STATE, () -> yard.get(0, 3, 5));
        Check.refuses(yard, "label in none", STATE, () -> yard.label(3, 5));
        for (int i : new int[] {-1, 2, LOW, HIGH}) {
            Check.refuses(yard, "get of " + i, ARGUMENT, () -> yard.get(1, 0, i));
            Check.refuses(yard, "label of " + i, ARGUMENT, () -> yard.label(0, i));
        }
    }

    private static void putAndNumber() {
        Run yard = two();
        Check.equal("put", yard.put(0, 0, LOW), 0);
        Check.equal("put of the last", yard.put(0, 2, -1), 0);
        Check.equal("number", yard.number(0, 0), LOW);
        Check.equal("number between", yard.number(0, 1), 0);
        Check.equal("number of the last", yard.number(0, 2), -1);
        Check.equal("put answers what was", yard.put(0, 2, HIGH), -1);
        Check.equal("number then", yard.number(0, 2), HIGH);
        for (int register : NO_REGISTERS) {
            Check.refuses(yard, "put in " + register, INDEX, () -> yard.put(register, -1, 5));
            Check.refuses(yard, "number in " + register, INDEX, () -> yard.number(register, -1));
        }
        Check.refuses(yard, "put in none", STATE, () -> yard.put(3, -1, 5));
        Check.refuses(yard, "number in none", STATE, () -> yard.number(3, -1));
        for (int i : new int[] {-1, 3, LOW, HIGH}) {
            Check.refuses(yard, "put of " + i, ARGUMENT, () -> yard.put(0, i, 5));
            Check.refuses(yard, "number of " + i, ARGUMENT, () -> yard.number(0, i));
        }
        Check.refuses(yard, "put without numbers", ARGUMENT, () -> yard.put(15, 0, 5));
    }

    private static void stepAndCollect() {
        Run yard = new Run();
        Check.equal("step without a train", yard.step(), TrainYard.NONE);
        Check.equal("collect without a train", yard.collect(0), 0);
        Check.equal("collect(100) without a train", yard.collect(100), 0);
        Check.equal("no step was done", yard.told(3), 0);
        Run full = two();
        for (int n : new int[] {-1, 101, LOW, HIGH}) {
            Check.refuses(full, "collect(" + n + ")", ARGUMENT, () -> full.collect(n));
        }
        Check.equal("collect(3)", full.collect(3), 0);
        Check.equal("steps of it", full.told(3), 3);
        Check.equal("collect(0)", full.collect(0), 0);
        Check.equal("steps with one car", full.told(3), 4);
    }

    private static void thing() {
        Run yard = two();
        int[] first = {1, 0, 1, 2, 3};
        int[] second = {2, 7, 1, 0, 0};
        for (int what = 0; what < 5; what++) {
            Check.equal("thing 1, " + what, yard.thing(0, what), first[what]);
            Check.equal("thing 2, " + what, yard.thing(15, what), second[what]);
        }
        for (int register : NO_REGISTERS) {
            Check.refuses(yard, "thing in " + register, INDEX, () -> yard.thing(register, 0));
        }
        for (int what : new int[] {-1, 5, LOW, HIGH}) {
            Check.refuses(yard, "thing, " + what, INDEX, () -> yard.thing(0, what));
            Check.refuses(yard, "thing of none, " + what, INDEX, () -> yard.thing(3, what));
        }
        Check.refuses(yard, "thing of none", STATE, () -> yard.thing(3, 4));
    }

    private static void trainAndCar() {
        Run yard = new Run();
        Check.refuses(yard, "train without one", INDEX, () -> yard.train(0, 0));
        Check.refuses(yard, "car without a train", INDEX, () -> yard.car(0, 0));
        yard.length(2);
        for (int k = 0; k < 3; k++) {
            yard.make(0, 12, 12);
        }
        yard.make(0, 2, 2);
        int[][] due = {{1, 2, 2}, {2, 1, 2}};
        for (int i = 0; i < 2; i++) {
            for (int what = 0; what < 3; what++) {
                Check.equal("train " + i + ", " + what, yard.train(i, what), due[i][what]);
            }
        }
        Check.equal("car(0, 0)", yard.car(0, 0), 0);
        Check.equal("car(0, 1)", yard.car(0, 1), 1);
        Check.equal("car(1, 0)", yard.car(1, 0), 2);
        for (int n : new int[] {-1, 2, LOW, HIGH}) {
            Check.refuses(yard, "train " + n, INDEX, () -> yard.train(n, 0));
            Check.refuses(yard, "car of train " + n, INDEX, () -> yard.car(n, 0));
            Check.refuses(yard, "car " + n + " of train 0", INDEX, () -> yard.car(0, n));
        }
        Check.refuses(yard, "car 1 of train 1", INDEX, () -> yard.car(1, 1));
        for (int what : new int[] {-1, 3, LOW, HIGH}) {
            Check.refuses(yard, "train, " + what, INDEX, () -> yard.train(0, what));
        }
    }

    private static void about() {
        Run yard = two();
        int[] due = {1, 23, 2, 0, 2};
        for (int what = 0; what < 5; what++) {
            Check.equal("about car 0, " + what, yard.about(0, what), due[what]);
            Check.equal("about car 39, " + what, yard.about(39, what), what == 1 ? 32 : 0);
        }
        for (int n : new int[] {-1, 40, LOW, HIGH}) {
            Check.refuses(yard, "about car " + n, INDEX, () -> yard.about(n, 0));
        }
        for (int what : new int[] {-1, 5, LOW, HIGH}) {
            Check.refuses(yard, "about, " + what, INDEX, () -> yard.about(0, what));
        }
    }

    /** Car 0: thing 1, and thing 2 with a reference to it; car 1: thing 3 with references to both and to itself. */
    private static void remembered() {
        Run yard = new Run();
        yard.make(0, 12, 0);
        yard.make(1, 12, 0);
        yard.make(2, 12, 0);
        yard.set(1, 0, 0);
        yard.set(0, 0, 2);
        yard.set(2, 11, 0);
        yard.set(2, 4, 1);
        yard.set(2, 5, 2);
        yard.set(2, 7, 0);
        Check.equal("how many car 0 remembers", yard.about(0, 3), 3);
        int[] due = {38, 41, 45, -1};
        for (int k = 0; k < due.length; k++) {
            Check.equal("car 0 remembers " + k, yard.remembered(0, k), due[k]);
        }
        Check.equal("how many car 1 remembers", yard.about(1, 3), 0);
        Check.equal("car 1 remembers", yard.remembered(1, 0), -1);
        for (int k : new int[] {-1, 1280, LOW, HIGH}) {
            Check.equal("car 0 remembers " + k, yard.remembered(0, k), -1);
        }
        yard.set(2, 7, 1);
        Check.equal("still, when it is to another thing there", yard.remembered(0, 1), 41);
        yard.set(2, 7, 8);
        Check.equal("no more, when it is to none", yard.remembered(0, 1), 45);
        Check.equal("a free car remembers", yard.remembered(39, 0), -1);
        for (int n : new int[] {-1, 40, LOW, HIGH}) {
            Check.refuses(yard, "remembered by car " + n, INDEX, () -> yard.remembered(n, 0));
            Check.refuses(yard, "remembered by car " + n + ", -1", INDEX, () -> yard.remembered(n, -1));
        }
    }

    private static void word() {
        Run yard = two();
        yard.set(0, 1, 15);
        yard.put(0, 2, 77);
        int[] due = {1, 2 + 16 * 3, -1, 7, 0, 0, 77, 2, 0, 0};
        for (int place = 0; place < due.length; place++) {
            Check.equal("word " + place, yard.word(place), due[place]);
        }
        Check.equal("word 31", yard.word(31), 0);
        Check.equal("word 1279", yard.word(1279), 0);
        for (int place : new int[] {-1, 1280, LOW, HIGH}) {
            Check.refuses(yard, "word " + place, INDEX, () -> yard.word(place));
        }
        yard.step();
        for (int place = 0; place < 32; place++) {
            Check.equal("word of a free car " + place, yard.word(place), 0);
        }
        Check.equal("the reference then", yard.word(32 + 3), 39);
    }

    private static void reached() {
        Run yard = new Run();
        Check.equal("reached at first", yard.reached(), 0);
        yard.make(0, 2, 0);
        yard.make(1, 2, 0);
        yard.make(2, 2, 0);
        yard.make(3, 2, 0);
        yard.set(0, 0, 1);
        yard.set(1, 0, 2);
        yard.set(2, 1, 0);
        yard.set(3, 0, 0);
        yard.set(0, 1, 0);
        Check.equal("reached, all held", yard.reached(), 4);
        yard.drop(3);
        Check.equal("reached, but for what refers only", yard.reached(), 3);
        yard.drop(0);
        yard.drop(1);
        Check.equal("reached from one of a ring", yard.reached(), 3);
        yard.copy(9, 2);
        Check.equal("reached from two registers", yard.reached(), 3);
        yard.drop(2);
        yard.drop(9);
        Check.equal("reached from none", yard.reached(), 0);
    }

    private static void told() {
        Run yard = two();
        yard.drop(15);
        yard.step();
        yard.drop(0);
        yard.step();
        yard.make(0, 0, 0);
        int[] due = {1, 39, 1, 2, 1, 2, 1, 7, 3, 3};
        for (int what = 0; what < 10; what++) {
            Check.equal("told " + what, yard.told(what), due[what]);
        }
        for (int what : new int[] {-1, 10, LOW, HIGH}) {
            Check.refuses(yard, "told " + what, INDEX, () -> yard.told(what));
        }
    }
}
