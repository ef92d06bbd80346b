/**
 * An object for the next call: the same one up to its 512th call, since what
 * later calls answer is free, and then a new one.
 */
final class NextHouse {
    private static final int CALLS = 512;

    private static HouseFunctions house = new HouseFunctions(1);
    private static int calls = 0;

    private NextHouse() {
    }

    static HouseFunctions get() {
        if (calls == CALLS) {
            house = new HouseFunctions(1);
            calls = 0;
        }
        calls++;
        return house;
    }
}
