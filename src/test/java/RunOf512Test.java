import java.math.BigDecimal;
import java.util.Random;

/**
 * "An object is used for at most 512 calls after it has been made": the 512th
 * is answered as any, whatever the 511 before it were.
 */
final class RunOf512Test {
    private static final int CALLS = 512;
    private static final int KINDS = 13;
    private static final Check CHECK = new Check();

    /** One call on the class, and what is due of it by the references. */
    private static final class Step {
        private final int kind;
        private final int a;
        private final int b;
        private final int c;

        Step(int kind, int a, int b, int c) {
            this.kind = kind;
            this.a = a;
            this.b = b;
            this.c = c;
        }

        @Override
        public String toString() {
            return "kind " + kind + " of " + a + ", " + b + ", " + c;
        }

        String answerOf(HouseFunctions house) {
            return told(() -> {
                switch (kind) {
                    case 0: return house.power(a);
                    case 1: return house.logarithm(a);
                    case 2: return house.sine(a);
                    case 3: return house.cosine(a);
                    case 4: return house.angle(a, b);
                    case 5: return house.root(a, b);
                    case 6: return house.damp(a, b);
                    case 7: return house.dew(a);
                    case 8: return house.table();
                    case 9: return house.row(a, b, c);
                    case 10: return house.at(a, b);
                    case 11: return house.join(a, b, c);
                    default: return house.drawn(a, b);
                }
            });
        }

        /** For kinds of bounds, a and b are inside them: those outside have their own test. */
        String dueBy(TableModel tables, long seed) {
            return told(() -> {
                switch (kind) {
                    case 0: return Reference.floorBillionths(Reference.exp(millionths()));
                    case 1: return Reference.floorBillionths(Reference.log(a, 1000000));
                    case 2: return Reference.floorBillionths(Reference.sin(millionths()));
                    case 3: return Reference.floorBillionths(Reference.cos(millionths()));
                    case 4: return Reference.floorBillionths(Reference.angle(a, b));
                    case 5: return Reference.floorOfRoot(a, b);
                    case 6: return Reference.damp(a, b);
                    case 7: return Reference.dew(a);
                    case 8: return tables.table();
                    case 9: return tables.row(a, b, c);
                    case 10: return tables.at(a, b);
                    case 11: return tables.join(a, b, c);
                    default: return Reference.draw(seed, a, b);
                }
            });
        }

        private BigDecimal millionths() {
            return Reference.ratio(a, 1000000);
        }
    }

    public static void main(String[] args) {
        allKindsTo512();
        tablesTo512();
        eachKindAsThe512th();
        refusedTo511();
        CHECK.end();
    }

    private static void allKindsTo512() {
        CHECK.sentence("An object is used for at most 512 calls: of all kinds");
        for (int run = 0; run < 3; run++) {
            Random random = new Random(run);
            HouseFunctions house = new HouseFunctions(run);
            TableModel tables = new TableModel();
            for (int i = 0; i < CALLS; i++) {
                ask(run + ": call " + (i + 1), stepFrom(random, random.nextInt(KINDS)), house, tables, run);
            }
        }
    }

    private static void tablesTo512() {
        CHECK.sentence("An object is used for at most 512 calls: of table, row, at and join");
        for (int run = 0; run < 300; run++) {
            Random random = new Random(1000 + run);
            HouseFunctions house = new HouseFunctions(run);
            TableModel tables = new TableModel();
            for (int i = 0; i < CALLS; i++) {
                // Few tables at first, so that rows are also asked for of those that are not there yet.
                int kind = random.nextInt(40) == 0 ? 8 : 9 + random.nextInt(3);
                ask(run + ": call " + (i + 1), stepFrom(random, kind), house, tables, run);
            }
        }
    }

    private static void eachKindAsThe512th() {
        CHECK.sentence("An object is used for at most 512 calls: the 512th");
        for (int kind = 0; kind < KINDS; kind++) {
            Random random = new Random(2000 + kind);
            HouseFunctions house = new HouseFunctions(kind);
            TableModel tables = new TableModel();
            ask("the first table", new Step(8, 0, 0, 0), house, tables, kind);
            for (int i = 1; i < CALLS - 1; i++) {
                Step step = stepFrom(random, 9 + random.nextInt(4));
                ask("kind " + kind + ": call " + (i + 1), step, house, tables, kind);
            }
            ask("kind " + kind + ": call 512", stepFrom(random, kind), house, tables, kind);
        }
    }

    private static void refusedTo511() {
        CHECK.sentence("a call that throws changes nothing: 511 of them");
        HouseFunctions house = new HouseFunctions(42);
        for (int i = 0; i < CALLS - 1; i++) {
            int which = i;
            CHECK.dueIllegalArgument("refused call " + (i + 1), () -> refused(house, which % 10));
        }
        CHECK.due("the 512th, table()", house.table(), 0);
    }

    private static long refused(HouseFunctions house, int which) {
        switch (which) {
            case 0: return house.power(20000001);
            case 1: return house.logarithm(1000000000001L);
            case 2: return house.sine(100000001);
            case 3: return house.cosine(-100000001);
            case 4: return house.angle(0, -1000001);
            case 5: return house.root(5, 6);
            case 6: return house.damp(5, 10001);
            case 7: return house.dew(-1);
            case 8: return house.row(0, 1, 1);
            default: return house.join(0, 0, 0);
        }
    }

    private static void ask(String name, Step step, HouseFunctions house, TableModel tables, long seed) {
        CHECK.due("run " + name + ", " + step, step.answerOf(house), step.dueBy(tables, seed));
    }

    private static String told(Check.Call call) {
        try {
            return Long.toString(call.answer());
        } catch (IllegalArgumentException | IllegalStateException refused) {
            return refused.getClass().getSimpleName();
        }
    }

    private static Step stepFrom(Random random, int kind) {
        switch (kind) {
            case 0: return new Step(kind, between(random, -20000000, 20000000), 0, 0);
            case 1: return new Step(kind, between(random, 1000001, 2000000000), 0, 0);
            case 2:
            case 3: return new Step(kind, between(random, -100000000, 100000000), 0, 0);
            case 4: return new Step(kind, between(random, 1, 1000000), between(random, -1000000, 1000000), 0);
            case 5: return new Step(kind, between(random, 0, 2000000000), between(random, 2, 5), 0);
            case 6: return new Step(kind, between(random, -4000, 10000), between(random, 0, 10000), 0);
            case 7: return new Step(kind, between(random, 0, 200000000), 0, 0);
            case 8: return new Step(kind, 0, 0, 0);
            case 9: return new Step(kind, between(random, -1, 6), placeFrom(random), placeFrom(random));
            case 10: return new Step(kind, between(random, -1, 6), placeFrom(random), 0);
            case 11: return new Step(kind, between(random, -1, 6), between(random, 0, 5), placeFrom(random));
            default: return new Step(kind, random.nextInt(), random.nextInt(), 0);
        }
    }

    private static int between(Random random, int least, int most) {
        return (int) (least + Math.floorMod(random.nextLong(), (long) most - least + 1));
    }

    /** Near to 0 or far from it, and now and then out of a row's bounds. */
    private static int placeFrom(Random random) {
        return random.nextInt() >> random.nextInt(30);
    }
}
