/** A DRAW: what runs over, what may go in, and what it hangs on. */
final class DrawEdgesTest {
    private static final long MOST = Long.MAX_VALUE;
    private static final long LEAST = Long.MIN_VALUE;
    private static final int MOST_USE = Integer.MAX_VALUE;
    private static final int LEAST_USE = Integer.MIN_VALUE;
    private static final Check CHECK = new Check();

    public static void main(String[] args) {
        numberAndOne();
        useTimes();
        seedAndRest();
        allRunOver();
        modulo();
        hangsOnThreeAlone();
        CHECK.end();
    }

    private static void numberAndOne() {
        CHECK.sentence("0x9E3779B97F4A7C15 times (the number and 1) (64 bits, running over)");
        HouseFunctions house = new HouseFunctions(0);
        CHECK.due("drawn(-1, 0)", house.drawn(-1, 0), 0);
        CHECK.due("drawn(0, 0)", house.drawn(0, 0), 453446585);
        CHECK.due("drawn(1, 0)", house.drawn(1, 0), 653415212);
        CHECK.due("drawn(-2, 0)", house.drawn(-2, 0), 338188983);
        CHECK.due("drawn(greatest, 0)", house.drawn(MOST, 0), 327088597);
        CHECK.due("drawn(greatest - 1, 0)", house.drawn(MOST - 1, 0), 132461938);
        CHECK.due("drawn(least, 0)", house.drawn(LEAST, 0), 378106686);
        CHECK.due("drawn(least + 1, 0)", house.drawn(LEAST + 1, 0), 892619794);
    }

    private static void useTimes() {
        CHECK.sentence("0xD1B54A32D192ED03 times the use (any) (64 bits, running over)");
        HouseFunctions house = new HouseFunctions(0);
        CHECK.due("drawn(0, 1)", house.drawn(0, 1), 222369008);
        CHECK.due("drawn(0, -1)", house.drawn(0, -1), 984525674);
        CHECK.due("drawn(-1, -1)", house.drawn(-1, -1), 807221302);
        CHECK.due("drawn(0, greatest)", house.drawn(0, MOST_USE), 227600767);
        CHECK.due("drawn(0, least)", house.drawn(0, LEAST_USE), 474978211);
    }

    private static void seedAndRest() {
        CHECK.sentence("z is the seed and .. (64 bits, running over)");
        dueDraw(1, 0, 0, 997656651);
        dueDraw(-1, 0, 0, 5355685);
        dueDraw(MOST, 0, 0, 445819507);
        dueDraw(LEAST, 0, 0, 378106686);
        dueDraw(42, 7, 1, 293662400);
    }

    private static void allRunOver() {
        CHECK.sentence("A DRAW by a number and a use (any)");
        dueDraw(MOST, MOST, MOST_USE, 386853420);
        dueDraw(LEAST, LEAST, LEAST_USE, 474978211);
        dueDraw(MOST, LEAST, LEAST_USE, 104965216);
        dueDraw(LEAST, MOST, MOST_USE, 955438464);
        dueDraw(-1, -1, -1, 207702996);
    }

    private static void modulo() {
        CHECK.sentence("the draw is z >>> 11, modulo 10^9");
        HouseFunctions house = new HouseFunctions(-77);
        for (int i = 0; i < 500; i++) {
            int draw = house.drawn(i * 0x123456789ABCDEFL, i * 0x9E3779B9);
            CHECK.dueTrue("draw " + i + " is " + draw + ", 0 .. 10^9 - 1", draw >= 0 && draw < 1000000000);
        }
    }

    private static void hangsOnThreeAlone() {
        CHECK.sentence("draws that hang on a seed, a number and a use alone");
        HouseFunctions house = new HouseFunctions(42);
        for (int i = 0; i < 3; i++) {
            CHECK.due("drawn(7, 1)", house.drawn(7, 1), 293662400);
            house.drawn(8 + i, 2);
            house.power(i);
            house.table();
            house.row(i, i, i);
        }
        CHECK.dueTrue("another seed, another draw", new HouseFunctions(43).drawn(7, 1) != 293662400);
        CHECK.dueTrue("another number, another draw", house.drawn(6, 1) != 293662400);
        CHECK.dueTrue("another use, another draw", house.drawn(7, 2) != 293662400);
    }

    private static void dueDraw(long seed, long number, int use, int want) {
        CHECK.due("seed " + seed + ": drawn(" + number + ", " + use + ")",
                new HouseFunctions(seed).drawn(number, use), want);
    }
}
