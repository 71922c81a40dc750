/** "What is refused changes nothing": each call that can be refused, for each reason, in works that hold much. */
public final class RefusedTest {
    private static final int[] FAR = {Integer.MIN_VALUE, -1, Integer.MAX_VALUE};

    public static void main(String[] args) {
        inABusyHour();
        atTheEnd();
        whenAllIsFull();
        Works.end("what is refused changes nothing");
    }

    /**
     * Hour 6: charges in cookers 0 and 2, 40 kilograms packed, crew 0 there and crew 1 on its way, lots that are used
     * up, iced, recalled and meal, batches that are sold, barred and new, contracts that have all, some and none.
     */
    private static Works busy() {
        Works w = new Works("What is refused changes nothing, in a busy hour");
        w.does("kind(0, 1011, 10)", "kind(1, 6124, 39)", "kind(3, 7015, 99)", "sauce(0, 90)", "sauce(1, 60)");
        w.does("ice(40)", "call(0)", "go(3)");
        w.does("land(0, 30, 2)", "land(1, 50, 0)", "land(2, 20, 19)", "land(0, 40, 0)", "land(0, 25, 4)");
        w.does("iced(0)", "pack(0, 0, 25)", "pack(1, 0, 20)", "go(1)", "contract(2, 0, 9, 0)", "contract(2, 0, 5, 3)");
        w.does("contract(1, 1, 7, 1)", "contract(4, 0, 2, 2)", "sell(2, 0, 11)", "sell(4, 0, 16)");
        w.does("pack(1, 0, 5)", "go(1)", "recall(4)", "call(1)", "go(1)", "pack(0, 1, 15)", "pack(2, 3, 10)");
        w.due("count(0)", 6).due("count(8)", 40).due("count(3)", 40).due("count(7)", 1).due("count(6)", 3);
        w.due("count(5)", 20).due("count(11)", 10).due("batch(0, 3)", 1).due("batch(1, 3)", 0).due("batch(1, 1)", 18);
        w.due("told(0, 4)", 9).due("told(1, 4)", 2).due("told(2, 4)", 0).due("told(3, 4)", 2).due("lot(0, 1)", 0);
        return w;
    }

    private static void inABusyHour() {
        Works w = busy();
        refusedFish(w);
        refusedTins(w);
        refusedSales(w);
        refusedReads(w);
    }

    private static void refusedFish(Works w) {
        w.refused("land(", FAR, ", 10, 0)").refused("land(3, 10, 0)").refused("land(0, ", FAR, ", 0)");
        w.refused("land(0, 0, 0)").refused("land(0, 5001, 0)").refused("land(0, 10, ", FAR, ")");
        w.refused("land(0, 10, 20)").refused("land(0, 10, 39)").refused("land(0, 10, 40)");
        w.refused("ice(", FAR, ")").refused("ice(0)").refused("ice(100001)");
        w.refused("iced(", FAR, ")").refused("iced(5)");
        w.refused("iced(0)").refused("iced(1)").refused("iced(2)").refused("iced(3)").refused("iced(4)");
    }

    private static void refusedTins(Works w) {
        w.refused("kind(", FAR, ", 1011, 5)").refused("kind(4, 1011, 5)").refused("kind(0, 7195, 99)");
        w.refused("kind(2, ", FAR, ", 5)").refused("kind(2, 1011, ", FAR, ")").refused("kind(2, 1016, 5)");
        w.refused("kind(2, 1011, 0)").refused("kind(2, 1011, 100)").refused("kind(2, 8011, 5)");
        w.refused("sauce(", FAR, ", 5)").refused("sauce(2, 5)").refused("sauce(0, ", FAR, ")");
        w.refused("sauce(1, 10001)");
        w.refused("call(", FAR, ")").refused("call(3)").refused("call(0)").refused("call(1)");
        w.refused("pack(", FAR, ", 0, 1)").refused("pack(3, 0, 1)").refused("pack(1, ", FAR, ", 1)");
        w.refused("pack(1, 2, 1)");
        w.refused("pack(1, 0, ", FAR, ")").refused("pack(1, 0, 0)").refused("pack(1, 0, 51)");
        w.refused("pack(0, 0, 1)").refused("pack(2, 0, 1)").refused("pack(2, 3, 10)");
        w.refused("pack(1, 0, 41)").refused("pack(1, 1, 26)").refused("pack(1, 3, 46)").refused("pack(1, 1, 50)");
        w.refused("fail(", FAR, ")").refused("fail(3)").refused("fail(1)");
        w.refused("go(", FAR, ")").refused("go(401)").refused("go(-400)").refused("plan(", FAR, ")").refused("plan(2)");
    }

    private static void refusedSales(Works w) {
        w.refused("sell(", FAR, ", 0, 1)").refused("sell(6, 0, 1)").refused("sell(2, ", FAR, ", 1)");
        w.refused("sell(2, 2, 1)");
        w.refused("sell(2, 0, ", FAR, ")").refused("sell(2, 0, 0)").refused("sell(2, 0, 24)").refused("sell(1, 1, 1)");
        w.refused("sell(5, 0, 40)").refused("sell(4, 3, 1)");
        w.refused("contract(", FAR, ", 0, 1, 1)").refused("contract(6, 0, 1, 1)");
        w.refused("contract(0, ", FAR, ", 1, 1)");
        w.refused("contract(0, 2, 1, 1)").refused("contract(0, 0, ", FAR, ", 1)").refused("contract(0, 0, 0, 1)");
        w.refused("contract(0, 0, 501, 1)").refused("contract(2, 0, 1, ", FAR, ")").refused("contract(2, 0, 1, 30)");
        w.refused("lacks(", FAR, ")").refused("lacks(4)").refused("recall(", FAR, ")").refused("recall(5)");
        w.refused("recall(4)");
    }

    private static void refusedReads(Works w) {
        w.refused("lot(", FAR, ", 1)").refused("lot(5, 1)").refused("lot(0, ", FAR, ")").refused("lot(0, 5)");
        w.refused("batch(", FAR, ", 1)").refused("batch(3, 1)").refused("batch(0, ", FAR, ")").refused("batch(0, 6)");
        w.refused("of(", FAR, ", 1)").refused("of(3, 1)").refused("of(0, ", FAR, ")").refused("of(0, 5)");
        w.refused("cooker(", FAR, ", 1)").refused("cooker(3, 1)").refused("cooker(0, ", FAR, ")");
        w.refused("cooker(0, 3)");
        w.refused("told(", FAR, ", 1)").refused("told(4, 1)").refused("told(0, ", FAR, ")").refused("told(0, 6)");
        w.refused("count(", FAR, ")").refused("count(14)");
    }

    private static void atTheEnd() {
        Works w = busy();
        for (int i = 0; i < 12; i++) {
            w.does("go(400)");
        }
        w.does("go(189)", "call(2)", "go(4)", "land(0, 50, 19)", "pack(1, 0, 10)", "go(400)");
        w.due("count(0)", 5000).due("count(6)", 6).due("told(3, 5)", 1).due("count(10)", 3 * 20 + 7 * 78);
        w.refused("go(-1)").refused("go(401)").refused("call(2)").refused("iced(5)").refused("pack(1, 0, 1)");
        w.refused("contract(0, 0, 1, 28)").refused("contract(0, 0, 1, 30)").refused("lacks(0)").refused("lacks(3)");
        w.refused("sell(2, 0, 34)").refused("sell(2, 1, 16)").refused("fail(1)").refused("recall(4)");
        w.refused("land(0, 10, 20)").due("sell(2, 0, 33)", 18 * 13 + 5 * 13 + 10 * 10);
    }

    private static void whenAllIsFull() {
        Works w = new Works("What is refused changes nothing, when all is full");
        w.does("kind(0, 1011, 10)", "kind(1, 7111, 20)", "kind(2, 1015, 30)", "kind(3, 7195, 99)", "call(0)", "go(3)");
        for (int i = 0; i < 10; i++) {
            w.does("ice(100000)", "sauce(0, 10000)", "sauce(1, 10000)", "contract(0, 0, 3, 5)", "contract(1, 1, 3, 2)");
        }
        for (int lot = 0; lot < 60; lot++) {
            w.does("land(" + lot % 3 + ", 100, " + lot % 7 + ")");
        }
        w.does("pack(0, 2, 50)", "pack(1, 2, 25)", "pack(2, 2, 25)").due("count(8)", 100).does("fail(1)");
        w.refused("ice(1)").refused("sauce(0, 101)").refused("sauce(1, 1)").refused("contract(0, 0, 3, 5)");
        w.refused("land(0, 1, 0)").refused("land(2, 5000, 19)").refused("pack(1, 0, 1)").refused("pack(0, 0, 1)");
        w.refused("kind(0, 1011, 10)").refused("kind(3, 1011, 10)").refused("sell(0, 2, 1)").refused("fail(1)");
    }
}
