/** Yards that several tests begin with. */
final class Yards {
    /** The largest thing, of 26 words, and what fills its car. */
    static final int MOST = 12;
    static final int REST = 2;

    private Yards() {
    }

    /** The largest thing that there is, which leaves 6 words of a car. */
    static int large(Run yard, int register) {
        return yard.make(register, MOST, MOST);
    }

    /** A car, or more, filled to the last word, each with a large thing and one of 6 words. */
    static void fullCars(Run yard, int cars, int register) {
        for (int k = 0; k < cars; k++) {
            yard.make(register, MOST, MOST);
            yard.make(register, REST, REST);
        }
    }

    /** Register 0 holds thing 1 (2 references, 3 numbers), register 15 thing 2 (none of either); the others none. */
    static Run two() {
        Run yard = new Run();
        yard.make(0, 2, 3);
        yard.make(15, 0, 0);
        return yard;
    }

    /** Trains of one car each, in which a large thing is; registers 0, 1 .. hold them. */
    static Run largeOnes(int trains) {
        Run yard = new Run();
        yard.length(1);
        for (int k = 0; k < trains; k++) {
            large(yard, k);
        }
        return yard;
    }
}
