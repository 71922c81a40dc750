/** A test for each sentence that names an edge: promises 11, 12 and 22, the plan, its worth and the counts. */
public final class EdgesOfPlanTest {
    private static final int[] FAR = {Integer.MIN_VALUE, Integer.MIN_VALUE + 1, -1000, Integer.MAX_VALUE};

    public static void main(String[] args) {
        planNoneSuch();
        planOfNothing();
        planTwentyEach();
        planFish();
        planFresh();
        planAllMealAtOnce();
        planIced();
        planRecalled();
        planSauce();
        planSauceThatIsShared();
        planSizes();
        planAllSetsOfSizes();
        planWhateverCrews();
        planWhateverCookers();
        planFullWorks();
        planChangesNothing();
        planFirstOfLike();
        planFirstOfLikeByKind1();
        planFirstOfLikeByKind2();
        planOfKindsToldLater();
        worthIsThePlans();
        worthMost();
        worthNotByDearest();
        countOthers();
        countOfEmptyAndFull();
        countPackedInThisHour();
        allKilograms();
        Works.end("the edges of the plan hold");
    }

    private static void plan(Works w, int worth, int... cases) {
        w.due("worth()", worth);
        for (int kind = 0; kind < cases.length; kind++) {
            w.due("plan(" + kind + ")", cases[kind]);
        }
    }

    private static void planNoneSuch() {
        Works w = new Works("11: NONE if there is none such told").refused("plan(0)").refused("plan(3)");
        w.does("kind(0, 1011, 5)", "kind(3, 1011, 5)").due("plan(0)", 0).due("plan(3)", 0).refused("plan(1)");
        w.refused("plan(2)").refused("plan(-1)").refused("plan(4)").refused("plan(", FAR, ")");
    }

    private static void planOfNothing() {
        Works w = new Works("11: a PLAN of nothing");
        plan(w, 0);
        w.does("land(0, 100, 0)", "sauce(0, 100)", "sauce(1, 100)");
        plan(w, 0);
        w.does("kind(0, 2011, 5)");
        plan(w, 0, 0);
        w.does("kind(1, 1011, 5)");
        plan(w, 100, 0, 20);
        Works bare = new Works("11: a PLAN without SAUCE or fish").does("kind(0, 7011, 9)");
        plan(bare, 0, 0);
        bare.does("land(0, 100, 0)");
        plan(bare, 0, 0);
        bare.does("sauce(1, 5)");
        plan(bare, 0, 0);
        bare.does("sauce(0, 1)");
        plan(bare, 9, 1);
    }

    private static void planTwentyEach() {
        Works w = new Works("at most 20 each").does("kind(2, 1011, 5)", "sauce(0, 1000)", "land(0, 19, 0)");
        w.due("plan(2)", 19).does("land(0, 1, 0)").due("plan(2)", 20).does("land(0, 1, 0)").due("plan(2)", 20);
        w.does("land(0, 5000, 0)").due("plan(2)", 20).due("worth()", 100).does("kind(0, 1011, 5)");
        plan(w, 200, 20, -1, 20);
        w.does("kind(1, 1011, 1)", "kind(3, 1011, 99)");
        plan(w, 100 + 20 + 100 + 1980, 20, 20, 20, 20);
    }

    private static void planFish() {
        Works w = new Works("11: of fish that is there").does("kind(0, 1091, 10)", "sauce(0, 100)", "land(0, 8, 0)");
        plan(w, 0, 0);
        w.does("land(0, 1, 0)");
        plan(w, 10, 1);
        w.does("land(0, 5, 0)", "land(0, 3, 0)");
        plan(w, 10, 1);
        w.does("land(0, 1, 0)");
        plan(w, 20, 2);
    }

    private static void planFresh() {
        Works w = new Works("11: of fish that is FRESH").does("kind(0, 1011, 10)", "sauce(0, 100)", "land(0, 5, 0)");
        w.does("land(0, 7, 19)");
        plan(w, 120, 12);
        w.does("go(1)");
        plan(w, 50, 5);
        w.does("go(18)");
        plan(w, 50, 5);
        w.does("go(1)");
        plan(w, 0, 0);
    }

    private static void planAllMealAtOnce() {
        Works w = new Works("11: the PLAN as all LOTS go to MEAL in one HOUR");
        w.does("kind(0, 7011, 10)", "sauce(0, 100)");
        w.does("land(0, 3, 0)", "land(1, 4, 0)", "land(2, 5, 0)");
        plan(w, 120, 12);
        w.does("go(20)");
        plan(w, 0, 0);
    }

    private static void planIced() {
        Works w = new Works("11: of fish that is FRESH, ICED or not").does("kind(0, 1011, 10)", "sauce(0, 100)");
        w.does("land(0, 5, 0)", "land(0, 3, 0)", "ice(5)", "iced(0)", "go(19)");
        plan(w, 80, 8);
        w.does("go(1)");
        plan(w, 50, 5);
        w.does("go(19)");
        plan(w, 50, 5);
        w.does("go(1)");
        plan(w, 0, 0);
    }

    private static void planRecalled() {
        Works w = new Works("11: not RECALLED");
        w.does("kind(0, 3011, 10)", "sauce(0, 100)", "land(0, 5, 0)", "land(1, 7, 0)");
        plan(w, 120, 12);
        w.does("recall(1)");
        plan(w, 50, 5);
        w.does("recall(0)");
        plan(w, 0, 0);
        w.does("land(1, 2, 0)");
        plan(w, 20, 2);
    }

    private static void planSauce() {
        Works w = new Works("11: SAUCE that is there");
        w.does("kind(0, 1011, 10)", "kind(1, 1111, 10)", "land(0, 500, 0)");
        w.does("sauce(0, 1)");
        plan(w, 10, 1, 0);
        w.does("sauce(1, 19)");
        plan(w, 200, 1, 19);
        w.does("sauce(1, 1)", "sauce(0, 19)");
        plan(w, 400, 20, 20);
        w.does("sauce(1, 1)", "sauce(0, 1)");
        plan(w, 400, 20, 20);
    }

    private static void planSauceThatIsShared() {
        Works w = new Works("11: one STORE of SAUCE for several KINDS").does("kind(0, 1111, 9)", "kind(1, 2111, 10)");
        w.does("kind(2, 4111, 8)", "land(0, 30, 0)", "land(1, 30, 0)", "land(2, 30, 0)", "sauce(1, 20)");
        plan(w, 200, 0, 20, 0);
        w.does("sauce(1, 1)");
        plan(w, 209, 1, 20, 0);
        w.does("sauce(1, 20)");
        plan(w, 200 + 180 + 8, 20, 20, 1);
        w.does("sauce(1, 19)");
        plan(w, 540, 20, 20, 20);
    }

    private static void planSizes() {
        Works w = new Works("11: fish of SIZES that it takes");
        w.does("kind(0, 1011, 10)", "kind(1, 6011, 7)", "sauce(0, 99)");
        w.does("land(1, 4, 0)");
        plan(w, 28, 0, 4);
        w.does("land(2, 3, 0)");
        plan(w, 49, 0, 7);
        w.does("land(0, 5, 0)");
        plan(w, 99, 5, 7);
        Works mixed = new Works("11: a case of several SIZES");
        mixed.does("kind(0, 7091, 10)", "sauce(0, 99)", "land(0, 3, 0)");
        mixed.does("land(1, 3, 0)", "land(2, 2, 0)");
        plan(mixed, 0, 0);
        mixed.does("land(1, 1, 0)");
        plan(mixed, 10, 1);
    }

    /** Two kinds of 1 kilogram and 6 kilograms of each size: each kind has what it takes, both what both take. */
    private static void planAllSetsOfSizes() {
        for (int one = 1; one <= 7; one++) {
            for (int two = 1; two <= 7; two++) {
                Works w = new Works("11: SIZES " + one + " and " + two).does("kind(0, " + one + "011, 10)");
                w.does("kind(1, " + two + "111, 10)", "sauce(0, 99)", "sauce(1, 99)");
                w.does("land(0, 6, 0)", "land(1, 6, 0)", "land(2, 6, 0)");
                int both = 6 * Integer.bitCount(one | two);
                int second = Math.min(both, 6 * Integer.bitCount(two));
                plan(w, both * 10, both - second, second);
            }
        }
    }

    private static void planWhateverCrews() {
        Works w = new Works("whatever CREWS are there").does("kind(0, 1091, 10)", "sauce(0, 100)", "land(0, 5000, 0)");
        plan(w, 200, 20);
        w.does("call(0)", "go(3)");
        plan(w, 200, 20);
        w.does("pack(0, 0, 11)");
        plan(w, 200, 20);
        w.does("go(8)");
        plan(w, 200, 20);
    }

    private static void planWhateverCookers() {
        Works w = new Works("whatever COOKERS are there").does("kind(0, 1015, 10)", "sauce(0, 50)", "land(0, 50, 0)");
        w.does("call(0)", "go(3)", "pack(0, 0, 10)", "pack(1, 0, 10)", "pack(2, 0, 10)");
        plan(w, 200, 20);
        w.does("fail(0)");
        plan(w, 200, 20);
        w.does("pack(0, 0, 1)");
        plan(w, 190, 19);
        w.does("fail(0)");
        plan(w, 190, 19);
        w.does("go(5)");
        plan(w, 190, 19);
    }

    private static void planFullWorks() {
        Works w = new Works("11: the PLAN of 60 LOTS").does("kind(0, 1091, 9)", "kind(1, 2081, 8)", "kind(2, 4071, 7)");
        w.does("sauce(0, 59)");
        for (int lot = 0; lot < 60; lot++) {
            w.does("land(" + lot % 3 + ", 9, 0)");
        }
        plan(w, 180 + 160 + 133, 20, 20, 19);
        w.does("recall(0)", "recall(57)");
        plan(w, 162 + 160 + 140, 18, 20, 20);
    }

    private static void planChangesNothing() {
        Works w = new Works("11: the PLAN is no CHARGE").does("kind(0, 1021, 10)", "sauce(0, 30)", "land(0, 60, 0)");
        plan(w, 200, 20);
        plan(w, 200, 20);
        w.due("count(2)", 60).due("count(12)", 30).due("count(3)", 0).due("count(8)", 0).due("cooker(0, 0)", -1);
        w.does("call(0)", "go(3)").due("pack(0, 0, 30)", 60);
        plan(w, 0, 0);
    }

    private static void planFirstOfLike() {
        Works w = new Works("of like ones the first one (fewest of KIND 0)");
        w.does("kind(0, 1021, 20)", "kind(1, 1011, 10)");
        w.does("sauce(0, 99)", "land(0, 20, 0)");
        plan(w, 200, 0, 20);
        w.does("land(0, 1, 0)");
        plan(w, 210, 1, 19);
        w.does("land(0, 1, 0)");
        plan(w, 220, 1, 20);
        Works sauce = new Works("of like ones the first one (fewest of KIND 0)").does("kind(0, 1021, 20)");
        sauce.does("kind(1, 1011, 10)", "sauce(0, 15)", "land(0, 20, 0)");
        plan(sauce, 200, 5, 10);
    }

    private static void planFirstOfLikeByKind1() {
        Works w = new Works("then of KIND 1").does("kind(0, 2011, 10)", "kind(1, 1031, 30)", "kind(2, 1011, 10)");
        w.does("kind(3, 1021, 20)", "sauce(0, 99)", "land(0, 60, 0)", "land(1, 2, 0)");
        plan(w, 620, 2, 0, 20, 20);
        w.does("land(0, 3, 0)");
        plan(w, 650, 2, 1, 20, 20);
        w.does("land(0, 2, 0)");
        plan(w, 670, 2, 2, 19, 20);
    }

    private static void planFirstOfLikeByKind2() {
        Works w = new Works("and so on").does("kind(0, 2011, 10)", "kind(1, 4011, 10)", "kind(2, 1041, 40)");
        w.does("kind(3, 1021, 20)", "sauce(0, 99)", "land(0, 40, 0)");
        plan(w, 400, 0, 0, 0, 20);
        w.does("land(0, 2, 0)");
        plan(w, 420, 0, 0, 1, 19);
        w.does("land(0, 2, 0)");
        plan(w, 440, 0, 0, 1, 20);
    }

    private static void planOfKindsToldLater() {
        Works w = new Works("11: the PLAN NOW").does("kind(1, 1011, 10)", "sauce(0, 99)", "land(0, 10, 0)");
        plan(w, 100, -1, 10);
        w.does("kind(0, 1011, 11)");
        plan(w, 110, 10, 0);
        w.refused("kind(0, 1011, 9)").refused("land(0, 0, 0)").refused("sauce(2, 1)");
        plan(w, 110, 10, 0);
        w.does("kind(3, 1051, 99)");
        plan(w, 198, 0, 0, -1, 2);
    }

    private static void worthIsThePlans() {
        Works w = new Works("12: What the PLAN is worth").does("kind(0, 1011, 99)", "sauce(0, 99)", "land(0, 1, 0)");
        plan(w, 99, 1);
        w.does("call(0)", "go(3)", "pack(0, 0, 1)", "go(1)");
        for (int i = 0; i < 10; i++) {
            w.does("go(400)");
        }
        w.due("batch(0, 5)", 99 + 27).does("land(0, 1, 0)");
        plan(w, 99, 1);
    }

    private static void worthMost() {
        Works w = new Works("12: the most that a PLAN is worth").does("kind(0, 7091, 99)", "kind(1, 7191, 99)");
        w.does("kind(2, 7095, 99)", "kind(3, 7195, 99)", "sauce(0, 40)", "sauce(1, 40)", "land(0, 719, 0)");
        plan(w, 79 * 99, 19, 20, 20, 20);
        w.does("land(2, 1, 0)");
        plan(w, 80 * 99, 20, 20, 20, 20);
    }

    private static void worthNotByDearest() {
        Works w = new Works("worth most by PRICES").does("kind(0, 1071, 70)", "kind(1, 1051, 49)", "kind(2, 1041, 39)");
        w.does("sauce(0, 99)", "land(0, 9, 0)");
        plan(w, 88, 0, 1, 1);
        w.does("land(0, 2, 0)");
        plan(w, 70 + 39, 1, 0, 1);
        Works size = new Works("worth most by PRICES").does("kind(0, 3011, 10)", "kind(1, 1011, 9)", "sauce(0, 99)");
        size.does("land(0, 5, 0)", "land(1, 5, 0)");
        plan(size, 100, 10, 0);
        size.does("land(1, 15, 0)");
        plan(size, 200 + 45, 20, 5);
    }

    private static void countOthers() {
        Works w = new Works("22: 0 .. 13; NONE for others").does("sauce(1, 7)", "sauce(0, 6)", "ice(5)");
        w.refused("count(-1)").refused("count(14)").refused("count(", FAR, ")").refused("count(15)");
        w.due("count(0)", 0).due("count(11)", 5).due("count(12)", 6).due("count(13)", 7);
    }

    private static void countOfEmptyAndFull() {
        Works w = new Works("22: each count of its own");
        w.does("kind(0, 1021, 10)", "sauce(0, 50)", "sauce(1, 3)", "ice(11)");
        w.does("call(0)", "call(2)", "go(3)", "land(0, 40, 0)", "land(2, 5, 19)", "contract(4, 0, 9, 0)");
        w.does("pack(0, 0, 4)", "go(1)", "sell(4, 0, 3)", "pack(1, 0, 3)", "pack(2, 0, 1)", "fail(1)");
        int[] want = {4, 2, 40 - 8 - 6 - 2, 2, 8, 5 + 6, 1, 2, 8, 30, 0, 11, 50 - 8, 3};
        for (int what = 0; what < 14; what++) {
            w.due("count(" + what + ")", want[what]);
        }
        w.does("go(164)");
        int[] later = {168, 2, 0, 0, 10, 35, 2, 0, 0, 30, 6 * 20, 11, 42, 3};
        for (int what = 0; what < 14; what++) {
            w.due("count(" + what + ")", later[what]);
        }
    }

    private static void countPackedInThisHour() {
        Works w = new Works("22: kilograms packed in this HOUR").does("kind(0, 1011, 10)", "sauce(0, 500)", "call(0)");
        w.does("go(3)", "land(0, 400, 0)").due("count(8)", 0).does("pack(0, 0, 50)", "pack(1, 0, 49)");
        w.due("count(8)", 99);
        w.does("fail(1)").due("count(8)", 99).refused("pack(2, 0, 2)").due("count(8)", 99).due("pack(2, 0, 1)", 1);
        w.due("count(8)", 100).does("go(1)").due("count(8)", 0);
    }

    private static void allKilograms() {
        Works w = new Works("ALL kilograms that came are in LOTS, in CHARGES, in BATCHES, or MEAL");
        w.does("kind(0, 1011, 10)", "sauce(0, 500)", "call(0)", "go(3)", "land(0, 100, 0)", "land(1, 7, 19)");
        kilograms(w, 107, 0, 0, 0);
        w.does("pack(0, 0, 50)", "pack(1, 0, 20)");
        kilograms(w, 37, 70, 0, 0);
        w.does("fail(1)", "recall(0)");
        kilograms(w, 37, 50, 0, 20);
        w.does("go(1)");
        kilograms(w, 30, 0, 50, 27);
        w.does("go(19)");
        kilograms(w, 0, 0, 50, 57);
    }

    private static void kilograms(Works w, int inLots, int inCharges, int inBatches, int meal) {
        w.due("count(2)", inLots).due("count(3)", inCharges).due("count(4)", inBatches).due("count(5)", meal);
    }
}
