/** One test a promise, with answers worked out by hand from the document. */
public final class PromisesTest {
    private static final int NONE = FishTins.NONE;
    private static final int[] WILD = {Integer.MIN_VALUE, -1000, -2, -1, 7, 61, 101, 5001, Integer.MAX_VALUE};
    private static String promise = "";
    private static int wrong = 0;

    public static void main(String[] args) {
        newObject();
        land();
        landSixty();
        ice();
        iced();
        kind();
        sauce();
        call();
        pack();
        packOrder();
        packCrews();
        packHundred();
        fail();
        go();
        hourOrder();
        plan();
        planSharesFish();
        planFirstOfLike();
        worth();
        sell();
        sellAge();
        contract();
        contractWeeks();
        lacks();
        recall();
        recallBuyers();
        recallLater();
        lot();
        batch();
        of();
        cooker();
        told();
        count();
        allKilograms();
        refusedChangesNothing();
        System.out.println(wrong == 0 ? "all promises hold" : wrong + " answers are not as due");
        if (wrong != 0) {
            System.exit(1);
        }
    }

    private static void due(String what, long got, long want) {
        if (got != want) {
            wrong++;
            System.out.println(promise + ": " + what + " answered " + got + ", due is " + want);
        }
    }

    private static void due(String what, boolean got, boolean want) {
        due(what, got ? 1 : 0, want ? 1 : 0);
    }

    /** A works with the kinds 0 (size 0, sauce 0) and 1 (sizes 0 and 1, sauce 1), sauce and all crews there at hour 3. */
    private static FishTins works() {
        FishTins x = new FishTins();
        x.kind(0, 1021, 10);
        x.kind(1, 3132, 25);
        x.sauce(0, 1000);
        x.sauce(1, 1000);
        x.call(0);
        x.call(1);
        x.call(2);
        x.go(3);
        return x;
    }

    /** The works with a batch of each kind: 0 (20 cases of lot 0) at hour 4, 1 (10 cases of lots 0 and 1) at hour 5. */
    private static FishTins stocked() {
        FishTins x = works();
        x.land(0, 50, 1);
        x.land(1, 100, 0);
        x.pack(0, 0, 20);
        x.pack(1, 1, 10);
        x.go(2);
        return x;
    }

    private static void newObject() {
        promise = "1 new object";
        FishTins x = new FishTins();
        for (int what = 0; what <= 13; what++) {
            due("count(" + what + ")", x.count(what), 0);
        }
        for (int i = 0; i < 4; i++) {
            due("plan", x.plan(i), NONE);
            due("pack", x.pack(0, i, 1), NONE);
        }
        due("lot", x.lot(0, 0), NONE);
        due("batch", x.batch(0, 0), NONE);
        due("told", x.told(0, 0), NONE);
        due("worth", x.worth(), 0);
        due("NONE", FishTins.NONE, -1);
        for (int i = 0; i < 3; i++) {
            due("cooker kind", x.cooker(i, 0), NONE);
            due("cooker cases", x.cooker(i, 1), 0);
            due("cooker done", x.cooker(i, 2), NONE);
        }
        FishTins other = new FishTins();
        other.land(0, 10, 0);
        due("another object's lots", x.count(1), 0);
    }

    private static void land() {
        promise = "2 land";
        FishTins x = new FishTins();
        due("first", x.land(0, 1, 0), 0);
        due("second", x.land(2, 5000, 19), 1);
        due("third", x.land(1, 10, 5), 2);
        for (int w : WILD) {
            due("size " + w, x.land(w, 1, 0), NONE);
            due("ago " + w, x.land(0, 1, w), w == 7 ? 3 : NONE);
            if (w != 7 && w != 61 && w != 101) {
                due("kilograms " + w, x.land(0, w, 0), NONE);
            }
        }
        due("size 3", x.land(3, 1, 0), NONE);
        due("no kilograms", x.land(0, 0, 0), NONE);
        due("not fresh", x.land(0, 1, 20), NONE);
        due("not fresh", x.land(0, 1, 39), NONE);
        due("ago 40", x.land(0, 1, 40), NONE);
        due("lots", x.count(1), 4);
        due("caught below 0", x.lot(1, 2), 1);
        x.go(30);
        due("still by numbers", x.land(2, 7, 19), 4);
        due("stale hour", x.lot(4, 2), 31);
    }

    private static void landSixty() {
        promise = "2 land, 60 lots";
        FishTins x = new FishTins();
        for (int i = 0; i < 60; i++) {
            due("lot " + i, x.land(i % 3, 5000, i % 20), i);
        }
        due("61st", x.land(0, 1, 0), NONE);
        due("kilograms", x.count(2), 300000);
        x.go(400);
        due("61st, though all are meal", x.land(0, 1, 0), NONE);
        due("meal", x.count(5), 300000);
        due("lots", x.count(1), 60);
    }

    private static void ice() {
        promise = "3 ice";
        FishTins x = new FishTins();
        due("one", x.ice(1), 1);
        due("most", x.ice(100000), 100001);
        due("too much", x.ice(100001), NONE);
        due("none", x.ice(0), NONE);
        due("below", x.ice(-5), NONE);
        due("far too much", x.ice(Integer.MAX_VALUE), NONE);
        due("far below", x.ice(Integer.MIN_VALUE), NONE);
        for (int i = 2; i <= 9; i++) {
            due("more", x.ice(100000), i * 100000 + 1);
        }
        due("above a million", x.ice(100000), NONE);
        due("a million", x.ice(99999), 1000000);
        due("above a million", x.ice(1), NONE);
        due("count", x.count(11), 1000000);
        x.land(0, 40, 0);
        x.iced(0);
        due("room again", x.ice(40), 1000000);
    }

    private static void iced() {
        promise = "4 iced";
        FishTins x = works();
        x.land(0, 50, 4);
        x.land(1, 30, 0);
        due("no ice", x.iced(0), false);
        x.ice(49);
        due("too little ice", x.iced(0), false);
        x.pack(0, 0, 10);
        due("what is left is iced", x.iced(0), true);
        due("ice left", x.count(11), 19);
        due("stale hour", x.lot(0, 2), 39);
        due("once", x.iced(0), false);
        x.ice(1000);
        due("once", x.iced(0), false);
        due("ice is kept", x.count(11), 1019);
        for (int w : WILD) {
            due("lot " + w, x.iced(w), false);
        }
        due("no such lot", x.iced(2), false);
        x.go(19);
        due("the last fresh hour", x.iced(1), true);
        due("stale hour", x.lot(1, 2), 43);
        x.land(2, 5, 0);
        x.go(17);
        due("iced one is gone at 39", x.lot(0, 1), 0);
        due("the later one isn't", x.lot(1, 1), 30);
        x.go(3);
        due("hour", x.count(0), 42);
        due("iced one is fresh", x.lot(1, 1), 30);
        due("not fresh", x.iced(2), false);
        x.go(1);
        due("iced one is meal", x.lot(1, 1), 0);
        due("ice is kept", x.count(11), 989);
        icedNothingLeft();
    }

    private static void icedNothingLeft() {
        FishTins x = works();
        x.ice(1000);
        x.land(0, 20, 0);
        x.pack(0, 0, 10);
        due("nothing left", x.lot(0, 1), 0);
        due("no fish left", x.iced(0), false);
        x.land(0, 20, 0);
        x.recall(1);
        due("a recalled one is fresh, too", x.iced(1), true);
        due("ice", x.count(11), 980);
        x.land(2, 979, 0);
        x.land(2, 1, 0);
        due("979 of 980", x.iced(2), true);
        due("one kilogram, all the ice", x.iced(3), true);
        due("ice", x.count(11), 0);
    }

    private static void kind() {
        promise = "5 kind";
        FishTins x = new FishTins();
        int[] bad = {0, -1, 11, 111, 999, 1000, 1001, 1010, 1016, 1019, 1201, 1211, 1911, 8011, 10011, 7100, -1011,
            Integer.MAX_VALUE, Integer.MIN_VALUE};
        for (int what : bad) {
            due("what " + what, x.kind(0, what, 10), false);
        }
        for (int price : new int[] {0, -1, 100, Integer.MIN_VALUE, Integer.MAX_VALUE}) {
            due("price " + price, x.kind(0, 1011, price), false);
        }
        for (int w : new int[] {-1, 4, 5, Integer.MIN_VALUE, Integer.MAX_VALUE}) {
            due("kind " + w, x.kind(w, 1011, 10), false);
        }
        due("not told", x.plan(0), NONE);
        due("least", x.kind(0, 1011, 1), true);
        due("most", x.kind(3, 7195, 99), true);
        due("again", x.kind(0, 1011, 1), false);
        due("again, another", x.kind(3, 1011, 1), false);
        due("told", x.plan(3), 0);
        due("told", x.plan(1), NONE);
        kindIsUsed();
    }

    private static void kindIsUsed() {
        FishTins x = works();
        due("told", x.kind(2, 4195, 99), true);
        x.land(0, 1000, 0);
        x.land(1, 1000, 0);
        x.land(2, 1000, 0);
        due("kilograms", x.pack(0, 2, 30), 270);
        due("of its size", x.lot(2, 1), 730);
        due("its sauce", x.count(13), 970);
        due("its hours", x.cooker(0, 2), 8);
        x.go(5);
        due("its price", x.batch(0, 5), 99);
    }

    private static void sauce() {
        promise = "6 sauce";
        FishTins x = new FishTins();
        due("one", x.sauce(0, 1), 1);
        due("other store", x.sauce(1, 10000), 10000);
        due("too much", x.sauce(0, 10001), NONE);
        due("none", x.sauce(0, 0), NONE);
        due("below", x.sauce(1, -1), NONE);
        due("far", x.sauce(1, Integer.MAX_VALUE), NONE);
        due("far", x.sauce(1, Integer.MIN_VALUE), NONE);
        due("no such", x.sauce(2, 1), NONE);
        for (int w : WILD) {
            due("sauce " + w, x.sauce(w, 1), NONE);
        }
        for (int i = 2; i <= 10; i++) {
            due("more", x.sauce(1, 10000), i * 10000);
        }
        due("full", x.sauce(1, 1), NONE);
        due("the other isn't", x.sauce(0, 5), 6);
        due("count", x.count(12), 6);
        due("count", x.count(13), 100000);
    }

    private static void call() {
        promise = "7 call";
        FishTins x = new FishTins();
        due("comes", x.call(1), 3);
        due("called", x.call(1), NONE);
        for (int w : WILD) {
            due("crew " + w, x.call(w), NONE);
        }
        due("crew 3", x.call(3), NONE);
        x.go(2);
        due("not there yet", x.count(7), 0);
        due("called", x.call(1), NONE);
        due("another", x.call(0), 5);
        x.go(1);
        due("there", x.count(7), 1);
        due("there", x.call(1), NONE);
        x.go(2);
        due("both", x.count(7), 2);
        x.go(5);
        due("its last hour", x.count(7), 2);
        due("its last hour", x.call(1), NONE);
        x.go(1);
        due("one is gone", x.count(7), 1);
        due("called again", x.call(1), 14);
        x.go(2);
        due("none", x.count(7), 0);
        x.go(1);
        due("again", x.count(7), 1);
    }

    private static void pack() {
        promise = "8 pack";
        FishTins x = works();
        x.land(0, 50, 0);
        x.land(2, 500, 0);
        due("all fish but one", x.pack(0, 0, 26), NONE);
        for (int w : WILD) {
            due("cooker " + w, x.pack(w, 0, 1), NONE);
            due("kind " + w, x.pack(0, w, 1), NONE);
            due("cases " + w, x.pack(2, 0, w), w == 7 ? 14 : NONE);
        }
        x.fail(2);
        due("cooker 3", x.pack(3, 0, 1), NONE);
        due("kind not told", x.pack(0, 2, 1), NONE);
        due("kind 4", x.pack(0, 4, 1), NONE);
        due("no cases", x.pack(0, 0, 0), NONE);
        due("51 cases", x.pack(0, 0, 51), NONE);
        due("kilograms", x.pack(0, 0, 10), 20);
        due("not free", x.pack(0, 0, 1), NONE);
        due("sizes", x.pack(1, 1, 6), NONE);
        due("all that is left", x.pack(1, 0, 8), 16);
        due("lot", x.lot(0, 1), 0);
        due("sauce", x.count(12), 1000 - 7 - 18);
        due("charges", x.count(3), 36);
        due("packed", x.count(8), 50);
        x.go(1);
        due("free again", x.pack(0, 0, 1), NONE);
        x.land(0, 100, 0);
        due("free again", x.pack(0, 0, 50), 100);
        packSauce();
    }

    private static void packSauce() {
        FishTins x = new FishTins();
        x.kind(0, 1011, 5);
        x.land(0, 100, 0);
        x.call(0);
        x.go(3);
        due("no sauce", x.pack(0, 0, 1), NONE);
        x.sauce(1, 100);
        due("the other sauce", x.pack(0, 0, 1), NONE);
        x.sauce(0, 5);
        due("too little", x.pack(0, 0, 6), NONE);
        due("all", x.pack(0, 0, 5), 5);
        due("store", x.count(12), 0);
        due("none left", x.pack(1, 0, 1), NONE);
        x.fail(0);
        due("failed sauce is lost", x.count(12), 0);
    }

    private static void packOrder() {
        promise = "8 pack, which lots";
        FishTins x = works();
        x.land(0, 10, 0);
        x.land(1, 10, 2);
        x.land(0, 10, 2);
        x.land(1, 10, 9);
        x.land(2, 10, 15);
        x.land(0, 10, 12);
        x.ice(100);
        x.iced(5);
        x.recall(3);
        due("33 kilograms", x.pack(0, 1, 11), 33);
        due("recalled", x.lot(3, 1), 10);
        due("of another size", x.lot(4, 1), 10);
        due("oldest, though iced", x.lot(5, 1), 0);
        due("then", x.lot(1, 1), 0);
        due("like one with the higher number", x.lot(2, 1), 0);
        due("youngest", x.lot(0, 1), 7);
        x.land(1, 10, 1);
        x.land(1, 10, 1);
        due("12 kilograms", x.pack(1, 1, 4), 12);
        due("lower number first", x.lot(6, 1), 0);
        due("higher number next", x.lot(7, 1), 8);
        due("youngest", x.lot(0, 1), 7);
        x.go(2);
        due("of", x.of(0, 5), 10);
        due("of", x.of(0, 1), 10);
        due("of", x.of(0, 2), 10);
        due("of", x.of(0, 0), 3);
        due("of", x.of(0, 3), 0);
        due("of", x.of(1, 7), 2);
    }

    private static void packCrews() {
        promise = "8 pack, crews";
        FishTins x = new FishTins();
        x.kind(0, 1031, 5);
        x.sauce(0, 1000);
        x.land(0, 5000, 0);
        due("no crew", x.pack(0, 0, 1), NONE);
        x.call(0);
        x.go(2);
        x.call(1);
        due("not there", x.pack(0, 0, 1), NONE);
        x.go(1);
        due("too much", x.pack(0, 0, 34), NONE);
        due("99", x.pack(0, 0, 33), 99);
        due("too much in all", x.pack(1, 0, 1), NONE);
        due("failed", x.fail(0), 99);
        due("packed though failed", x.pack(0, 0, 1), NONE);
        due("packed", x.count(8), 99);
        x.go(0);
        due("the same hour", x.count(8), 99);
        x.go(1);
        due("another hour", x.count(8), 0);
        due("99", x.pack(0, 0, 33), 99);
        x.go(1);
        due("two crews", x.pack(0, 0, 50), 150);
        due("50 left", x.pack(1, 0, 17), NONE);
        due("48", x.pack(1, 0, 16), 48);
        x.go(6);
        due("one is gone", x.pack(0, 0, 34), NONE);
        due("one is there", x.pack(0, 0, 33), 99);
        x.go(2);
        due("both are gone", x.pack(0, 0, 1), NONE);
        packExactly();
    }

    private static void packExactly() {
        FishTins x = works();
        x.kind(2, 1011, 5);
        x.land(0, 500, 0);
        due("51 cases", x.pack(0, 2, 51), NONE);
        due("50 cases", x.pack(0, 2, 50), 50);
        due("100 kilograms", x.pack(1, 0, 50), 100);
        due("more than 300", x.pack(2, 1, 50 + 1), NONE);
        due("all of 300", x.pack(2, 1, 50), 150);
        due("packed", x.count(8), 300);
        x.go(1);
        due("nothing left of a crew's hour", x.count(8), 0);
    }

    private static void packHundred() {
        promise = "8 pack, 100 batches";
        FishTins x = new FishTins();
        x.kind(0, 1011, 5);
        x.kind(1, 1012, 5);
        x.sauce(0, 1000);
        int made = 0;
        for (int round = 0; made < 98; round++) {
            x.land(0, 1000, 0);
            x.call(0);
            x.go(3);
            for (int hour = 0; hour < 8 && made < 98; hour++) {
                for (int cooker = 0; cooker < 3 && made < 98; cooker++) {
                    due("kilograms", x.pack(cooker, 0, 1), 1);
                    made++;
                }
                x.go(1);
            }
            x.go(8);
        }
        due("batches", x.count(6), 98);
        x.go(20);
        x.land(0, 1000, 0);
        x.call(0);
        x.go(3);
        due("99th", x.pack(0, 1, 1), 1);
        due("100th", x.pack(1, 0, 1), 1);
        due("101st", x.pack(2, 0, 1), NONE);
        x.go(1);
        due("batches", x.count(6), 99);
        due("101st, with a charge", x.pack(1, 0, 1), NONE);
        x.fail(0);
        due("a failed one gives room", x.pack(2, 0, 1), 1);
        x.go(1);
        due("batches", x.count(6), 100);
        due("101st", x.pack(0, 0, 1), NONE);
        due("the last", x.batch(99, 1), 1);
        due("no more", x.batch(100, 1), NONE);
        due("of the last", x.of(99, x.count(1) - 1), 1);
        due("more than all", x.sell(0, 0, 101), NONE);
        due("all", x.sell(0, 0, 100), 500);
        due("none", x.sell(1, 0, 1), NONE);
        due("bought of a full works", x.recall(x.count(1) - 1), 1);
        due("the last is barred", x.batch(99, 3), 1);
        due("the first isn't", x.batch(0, 3), 0);
    }

    private static void fail() {
        promise = "9 fail";
        FishTins x = works();
        x.land(0, 100, 0);
        due("free", x.fail(0), NONE);
        for (int w : WILD) {
            due("cooker " + w, x.fail(w), NONE);
        }
        due("cooker 3", x.fail(3), NONE);
        x.pack(1, 1, 10);
        x.pack(2, 0, 5);
        due("free", x.fail(0), NONE);
        x.go(1);
        due("done", x.fail(2), NONE);
        due("fails", x.fail(1), 30);
        due("fails no more", x.fail(1), NONE);
        due("meal", x.count(5), 30);
        due("charges", x.count(3), 0);
        due("free", x.cooker(1, 0), NONE);
        due("free", x.cooker(1, 1), 0);
        due("free", x.cooker(1, 2), NONE);
        x.go(5);
        due("nothing is done", x.count(6), 1);
        due("kilograms in batches", x.count(4), 10);
        x.land(1, 30, 0);
        due("packed", x.pack(1, 1, 1), 3);
        x.go(2);
        due("nothing of the failed charge", x.of(1, 0), 3);
        due("nothing of the failed charge", x.of(1, 1), 0);
    }

    private static void go() {
        promise = "10 go";
        FishTins x = new FishTins();
        due("0", x.go(0), 0);
        due("1", x.go(1), 1);
        due("400", x.go(400), 401);
        due("401", x.go(401), NONE);
        due("-1", x.go(-1), NONE);
        due("far", x.go(Integer.MAX_VALUE), NONE);
        due("far", x.go(Integer.MIN_VALUE), NONE);
        due("now", x.count(0), 401);
        for (int i = 2; i <= 12; i++) {
            due("400", x.go(400), i * 400 + 1);
        }
        due("up to 5000", x.go(200), 5000);
        due("no more", x.go(400), 5000);
        due("no more", x.go(0), 5000);
        x.kind(0, 1011, 5);
        x.sauce(0, 10);
        due("lands", x.land(0, 10, 19), 0);
        due("comes", x.call(0), 5003);
        x.go(400);
        due("nothing spoils behind 5000", x.lot(0, 1), 10);
        due("nobody comes behind 5000", x.count(7), 0);
        due("another n", x.go(401), NONE);
    }

    private static void hourOrder() {
        promise = "10 go, what an hour does";
        FishTins x = works();
        x.land(0, 40, 2);
        x.land(0, 40, 1);
        x.pack(2, 0, 5);
        x.pack(1, 1, 5);
        x.pack(0, 0, 5);
        due("charges", x.count(3), 35);
        x.go(1);
        due("done", x.count(6), 2);
        due("by cookers", x.batch(0, 4), 5);
        x.go(1);
        due("done", x.count(6), 3);
        due("later one", x.batch(2, 0), 1);
        x.go(15);
        due("fresh", x.lot(0, 1), 5);
        x.go(1);
        due("hour", x.count(0), 21);
        due("meal", x.count(5), 5);
        due("left", x.count(2), 40);
        x.go(1);
        due("meal", x.count(5), 45);
        due("left", x.count(2), 0);
        due("in batches", x.count(4), 35);
        byCookers();
    }

    private static void byCookers() {
        FishTins x = works();
        x.land(0, 300, 0);
        x.pack(2, 1, 1);
        x.go(1);
        x.pack(1, 0, 2);
        x.pack(0, 0, 3);
        x.go(1);
        due("cooker 0", x.batch(0, 4), 3);
        due("cooker 1", x.batch(1, 4), 2);
        due("cooker 2", x.batch(2, 4), 1);
        due("cooker 2", x.batch(2, 0), 1);
        for (int i = 0; i < 3; i++) {
            due("one hour", x.batch(i, 2), 5);
            due("free", x.cooker(i, 0), NONE);
        }
    }

    private static void plan() {
        promise = "11 plan";
        FishTins x = new FishTins();
        for (int w : WILD) {
            due("kind " + w, x.plan(w), NONE);
        }
        x.kind(1, 1021, 10);
        due("not told", x.plan(0), NONE);
        due("nothing", x.plan(1), 0);
        x.land(0, 25, 0);
        due("no sauce", x.plan(1), 0);
        x.sauce(0, 50);
        due("12 of 25 kilograms", x.plan(1), 12);
        x.land(0, 1000, 0);
        due("20 at most", x.plan(1), 20);
        due("worth", x.worth(), 200);
        x.kind(0, 1011, 9);
        due("a new kind", x.plan(0), 20);
        due("and the old one", x.plan(1), 20);
        x.recall(1);
        due("recalled", x.plan(0), 19);
        due("recalled", x.plan(1), 3);
        due("worth", x.worth(), 201);
        x.go(20);
        due("not fresh", x.plan(0), 0);
        due("worth", x.worth(), 0);
        due("kind 4", x.plan(4), NONE);
        planSauce();
    }

    private static void planSauce() {
        FishTins x = works();
        x.land(0, 100, 0);
        FishTins y = new FishTins();
        y.kind(0, 7011, 3);
        y.kind(1, 7021, 5);
        y.kind(2, 7131, 4);
        y.land(2, 200, 0);
        y.sauce(0, 25);
        y.sauce(1, 7);
        due("cheaper one of the sauce", y.plan(0), 5);
        due("dearer one of the sauce", y.plan(1), 20);
        due("the other sauce", y.plan(2), 7);
        due("worth", y.worth(), 15 + 100 + 28);
        y.sauce(0, 1);
        y.sauce(1, 1);
        due("more of both sauces", y.worth(), 18 + 100 + 32);
        due("kind 0", x.plan(0), 20);
        due("kind 1", x.plan(1), 20);
        x.pack(0, 0, 20);
        due("fish in a charge is gone", x.plan(1), 20);
        due("fish in a charge is gone", x.plan(0), 0);
    }

    private static void planSharesFish() {
        promise = "11 plan, fish for several kinds";
        FishTins x = new FishTins();
        x.kind(0, 3011, 10);
        x.kind(1, 6011, 10);
        x.kind(2, 5011, 10);
        x.kind(3, 7021, 19);
        x.sauce(0, 1000);
        x.land(0, 7, 0);
        x.land(1, 7, 0);
        x.land(2, 7, 0);
        due("all 21 kilograms", x.worth(), 210);
        due("fewest of kind 0", x.plan(0), 0);
        due("then of kind 1", x.plan(1), 7);
        due("kind 2", x.plan(2), 14);
        due("kind 3", x.plan(3), 0);
        FishTins y = new FishTins();
        y.kind(0, 3011, 50);
        y.kind(1, 1091, 99);
        y.kind(2, 2091, 99);
        y.sauce(0, 1000);
        y.land(0, 10, 0);
        y.land(1, 10, 0);
        due("both sizes for one kind", y.worth(), 1000);
        due("20 of kind 0", y.plan(0), 20);
        y.land(0, 8, 0);
        due("28 kilograms, 18 of size 0", y.worth(), 1000 - 50 + 99);
        due("19 of kind 0", y.plan(0), 19);
        due("fewest of kind 1", y.plan(1), 0);
        due("one of kind 2", y.plan(2), 1);
        y.recall(1);
        due("without size 1", y.worth(), 18 * 50);
        due("18 of kind 0", y.plan(0), 18);
    }

    private static void planFirstOfLike() {
        promise = "11 plan, the first of like ones";
        FishTins x = new FishTins();
        x.kind(0, 1011, 10);
        x.kind(1, 1011, 10);
        x.kind(2, 1021, 20);
        x.kind(3, 1011, 10);
        x.sauce(0, 1000);
        x.land(0, 30, 0);
        due("worth", x.worth(), 300);
        due("kind 0", x.plan(0), 0);
        due("kind 1", x.plan(1), 0);
        due("kind 2", x.plan(2), 5);
        due("kind 3", x.plan(3), 20);
        x.land(0, 31, 0);
        due("worth", x.worth(), 610);
        due("kind 0", x.plan(0), 0);
        due("kind 1", x.plan(1), 1);
        due("kind 2", x.plan(2), 20);
        due("kind 3", x.plan(3), 20);
    }

    private static void worth() {
        promise = "12 worth";
        FishTins x = new FishTins();
        due("nothing", x.worth(), 0);
        for (int kind = 0; kind < 4; kind++) {
            x.kind(kind, 7091, 99);
        }
        x.sauce(0, 10000);
        for (int lot = 0; lot < 60; lot++) {
            x.land(lot % 3, 5000, 0);
        }
        due("most", x.worth(), 4 * 20 * 99);
        FishTins y = new FishTins();
        y.kind(0, 1091, 90);
        y.kind(1, 1041, 45);
        y.kind(2, 1051, 55);
        y.sauce(0, 100);
        y.land(0, 13, 0);
        due("not the dearest first", y.worth(), 55 + 2 * 45);
        due("kind 0", y.plan(0), 0);
        y.recall(0);
        due("nothing", y.worth(), 0);
        y.land(0, 9, 0);
        due("nine kilograms", y.worth(), 100);
        y.land(1, 9, 0);
        due("nobody takes them", y.worth(), 100);
        y.land(0, 1, 0);
        due("ten kilograms", y.worth(), 110);
    }

    private static void sell() {
        promise = "13 sell";
        FishTins x = stocked();
        due("no such", x.sell(6, 0, 1), NONE);
        for (int w : WILD) {
            due("customer " + w, x.sell(w, 0, 1), NONE);
            due("kind " + w, x.sell(0, w, 1), NONE);
            if (w != 7) {
                due("cases " + w, x.sell(0, 0, w), NONE);
            }
        }
        due("no cases", x.sell(0, 0, 0), NONE);
        due("kind not told", x.sell(0, 2, 1), NONE);
        due("too many", x.sell(0, 0, 21), NONE);
        due("some", x.sell(0, 0, 5), 50);
        due("there", x.batch(0, 1), 15);
        due("at first", x.batch(0, 4), 20);
        due("too many", x.sell(5, 0, 16), NONE);
        due("the rest", x.sell(5, 0, 15), 150);
        due("none", x.sell(5, 0, 1), NONE);
        due("the other kind", x.sell(1, 1, 10), 250);
        due("coins", x.count(9), 450);
        x.pack(0, 1, 4);
        due("not done yet", x.sell(1, 1, 1), NONE);
        x.go(2);
        due("done", x.sell(1, 1, 4), 100);
        sellOldest();
    }

    private static void sellOldest() {
        FishTins x = works();
        x.land(0, 200, 0);
        x.land(0, 200, 0);
        x.pack(0, 0, 10);
        x.pack(1, 1, 10);
        x.go(1);
        x.pack(0, 0, 10);
        x.pack(2, 0, 10);
        x.go(3);
        due("15 cases", x.sell(2, 0, 15), 150);
        due("oldest", x.batch(0, 1), 0);
        due("next", x.batch(1, 1), 5);
        due("next", x.batch(2, 1), 10);
        due("of the other kind", x.batch(3, 1) + x.batch(1, 0), 10);
    }

    private static void sellAge() {
        promise = "13 sell, age";
        FishTins x = new FishTins();
        x.kind(0, 1011, 39);
        x.kind(1, 1011, 9);
        x.sauce(0, 100);
        x.land(0, 200, 0);
        x.call(0);
        x.go(10);
        x.pack(0, 0, 40);
        x.pack(1, 1, 40);
        x.go(1);
        due("done", x.batch(0, 2), 11);
        due("new", x.batch(0, 5), 39);
        x.go(336);
        x.go(335);
        due("hour", x.count(0), 11 + 671);
        due("4 weeks but an hour", x.batch(0, 5), 39);
        due("sold", x.sell(0, 0, 2), 78);
        x.go(1);
        due("4 weeks", x.batch(0, 5), 42);
        due("sold", x.sell(0, 0, 2), 84);
        due("a tenth of 9, cut", x.batch(1, 5), 9);
        x.go(336);
        x.go(335);
        due("8 weeks but an hour", x.batch(0, 5), 42);
        x.go(1);
        due("8 weeks", x.batch(0, 5), 45);
        x.go(336);
        x.go(336);
        due("12 weeks", x.batch(0, 5), 48);
        x.go(400);
        x.go(400);
        due("16 weeks", x.batch(0, 5), 48);
        due("sold", x.sell(0, 0, 3), 144);
        due("9 coins ever", x.sell(0, 1, 3), 27);
        due("coins", x.count(9), 78 + 84 + 144 + 27);
        sellMixedAges();
    }

    private static void sellMixedAges() {
        FishTins x = works();
        x.land(0, 20, 0);
        x.pack(0, 0, 10);
        for (int i = 0; i < 3; i++) {
            x.go(336);
        }
        x.land(0, 20, 0);
        x.call(0);
        x.go(3);
        x.pack(0, 0, 10);
        x.go(1);
        due("old", x.batch(0, 5), 11);
        due("new", x.batch(1, 5), 10);
        due("both", x.sell(3, 0, 12), 130);
    }

    private static void contract() {
        promise = "14 contract";
        FishTins x = works();
        for (int w : WILD) {
            due("customer " + w, x.contract(w, 0, 1, 0), NONE);
            due("kind " + w, x.contract(0, w, 1, 0), NONE);
            if (w != 7) {
                due("week " + w, x.contract(0, 0, 1, w), NONE);
            }
        }
        due("customer 6", x.contract(6, 0, 1, 0), NONE);
        due("kind 2", x.contract(0, 2, 1, 0), NONE);
        due("0 cases", x.contract(0, 0, 0, 0), NONE);
        due("-1 cases", x.contract(0, 0, -1, 0), NONE);
        due("501 cases", x.contract(0, 0, 501, 0), NONE);
        due("week 30", x.contract(0, 0, 1, 30), NONE);
        due("first", x.contract(0, 0, 1, 0), 0);
        due("second", x.contract(5, 1, 500, 29), 1);
        x.go(164);
        due("the last hour of a week", x.contract(1, 0, 1, 0), 2);
        x.go(1);
        due("another week", x.contract(1, 0, 1, 0), NONE);
        due("another week", x.contract(1, 0, 1, 1), 3);
        for (int i = 4; i < 20; i++) {
            due("more", x.contract(2, 1, 3, 28), i);
        }
        due("21st", x.contract(2, 1, 3, 28), NONE);
        due("fines", x.count(10), 2 * 20);
    }

    private static void contractWeeks() {
        promise = "14 contract, sold and fined";
        FishTins x = stocked();
        x.contract(0, 0, 5, 2);
        x.contract(0, 0, 3, 1);
        x.contract(1, 0, 3, 1);
        x.contract(0, 1, 3, 1);
        x.contract(0, 0, 2, 1);
        due("sold", x.sell(0, 0, 4), 40);
        due("by weeks", x.told(1, 4), 3);
        due("then by numbers", x.told(4, 4), 1);
        due("later week", x.told(0, 4), 0);
        due("another customer", x.told(2, 4), 0);
        due("another kind", x.told(3, 4), 0);
        due("sold", x.sell(0, 0, 2), 20);
        due("first the one that lacks", x.told(4, 4), 2);
        due("then the later week", x.told(0, 4), 1);
        x.go(163);
        due("nothing ended", x.count(10), 0);
        x.go(167);
        due("hour", x.count(0), 335);
        due("not over", x.told(2, 5), 0);
        due("no fines", x.count(10), 0);
        x.go(1);
        due("fines", x.count(10), 3 * 2 * 10 + 3 * 2 * 25);
        for (int i = 1; i < 5; i++) {
            due("over", x.told(i, 5), 1);
        }
        due("not over", x.told(0, 5), 0);
        due("sold", x.sell(1, 0, 2), 20);
        due("over: has no more", x.told(2, 4), 0);
        due("sold", x.sell(0, 0, 9), 90);
        due("no more than wanted", x.told(0, 4), 5);
        x.go(400);
        due("no fine for it", x.count(10), 210);
        due("over", x.told(0, 5), 1);
    }

    private static void lacks() {
        promise = "15 lacks";
        FishTins x = stocked();
        for (int w : WILD) {
            due("contract " + w, x.lacks(w), NONE);
        }
        due("none such", x.lacks(0), NONE);
        x.contract(0, 0, 8, 3);
        x.contract(1, 0, 9, 1);
        x.contract(2, 0, 9, 1);
        x.contract(3, 1, 12, 0);
        due("third", x.lacks(0), 6);
        due("first", x.lacks(1), 0);
        due("second", x.lacks(2), 0);
        due("another kind", x.lacks(3), 2);
        x.sell(2, 0, 5);
        due("of those that are there", x.lacks(0), 6);
        x.sell(5, 0, 8);
        due("third", x.lacks(0), 8);
        due("first", x.lacks(1), 2);
        due("second", x.lacks(2), 4);
        x.go(400);
        due("over", x.lacks(1), NONE);
        due("over", x.lacks(3), NONE);
        due("those before it are over", x.lacks(0), 1);
        due("4 is none such", x.lacks(4), NONE);
        x.recall(0);
        due("barred", x.lacks(0), 8);
        FishTins y = stocked();
        y.contract(0, 0, 15, 0);
        y.contract(0, 0, 15, 0);
        due("lower number first", y.lacks(0), 0);
        due("higher number next", y.lacks(1), 10);
    }

    private static void recall() {
        promise = "16 recall";
        FishTins x = stocked();
        for (int w : WILD) {
            due("lot " + w, x.recall(w), NONE);
        }
        due("lot 2", x.recall(2), NONE);
        x.sell(0, 0, 1);
        x.sell(4, 0, 1);
        x.sell(5, 1, 1);
        due("of lot 1: kind 1 alone", x.recall(1), 1 << 5);
        due("barred", x.batch(1, 3), 1);
        due("not barred", x.batch(0, 3), 0);
        due("cases are there", x.batch(1, 1), 9);
        due("not sold", x.sell(5, 1, 1), NONE);
        due("sold", x.sell(3, 0, 1), 10);
        due("again", x.recall(1), NONE);
        due("of lot 0: all", x.recall(0), 1 << 0 | 1 << 4 | 1 << 5 | 1 << 3);
        due("barred", x.batch(0, 3), 1);
        due("recalled", x.lot(0, 4), 1);
        due("not packed any more", x.pack(0, 0, 1), NONE);
        due("not planned any more", x.plan(1), 0);
        due("coins are kept", x.count(9), 55);
        x.land(0, 10, 0);
        due("nothing of it was sold", x.recall(2), 0);
        x.go(400);
        due("meal, too", x.count(2), 0);
        x.land(2, 10, 0);
        x.go(20);
        due("one that is meal", x.recall(3), 0);
    }

    private static void recallBuyers() {
        promise = "16 recall, who bought";
        FishTins x = works();
        x.land(0, 21, 1);
        x.land(0, 20, 0);
        x.pack(0, 0, 10);
        x.pack(1, 0, 10);
        x.go(1);
        due("one kilogram of lot 0", x.of(1, 0), 1);
        due("all but one", x.sell(0, 0, 9), 90);
        due("the last one", x.sell(1, 0, 1), 10);
        due("sold out", x.batch(0, 1), 0);
        due("of the other", x.sell(2, 0, 3), 30);
        due("the second batch alone", x.recall(1), 1 << 2);
        due("not barred", x.batch(0, 3), 0);
        due("both", x.recall(0), 1 << 0 | 1 << 1 | 1 << 2);
        FishTins y = works();
        y.land(0, 21, 1);
        y.land(0, 20, 0);
        y.pack(0, 0, 10);
        y.pack(1, 0, 10);
        y.go(1);
        due("exactly the first batch", y.sell(3, 0, 10), 100);
        due("nothing of the second", y.recall(1), 0);
        due("first", y.recall(0), 1 << 3);
        FishTins z = works();
        z.land(0, 21, 1);
        z.land(0, 20, 0);
        z.pack(0, 0, 10);
        z.pack(1, 0, 10);
        z.go(1);
        z.sell(4, 0, 11);
        z.recall(0);
        due("one kilogram bars", z.batch(1, 3), 1);
    }

    private static void recallLater() {
        promise = "16 recall, done later";
        FishTins x = works();
        x.land(0, 10, 1);
        x.land(0, 100, 0);
        x.pack(0, 1, 3);
        x.pack(1, 1, 3);
        x.pack(2, 0, 4);
        due("nobody", x.recall(0), 0);
        x.go(1);
        due("done", x.batch(0, 0), 0);
        due("not of it", x.batch(0, 3), 0);
        x.go(1);
        due("9 of it", x.of(1, 0), 9);
        due("barred", x.batch(1, 3), 1);
        due("1 of it", x.of(2, 0), 1);
        due("barred", x.batch(2, 3), 1);
        due("not sold", x.sell(0, 1, 1), NONE);
        due("sold", x.sell(0, 0, 4), 40);
        x.pack(0, 1, 3);
        x.go(2);
        due("not of it", x.batch(3, 3), 0);
        due("only what isn't barred", x.sell(2, 1, 4), NONE);
        due("only what isn't barred", x.sell(2, 1, 3), 75);
        due("barred ones keep theirs", x.batch(1, 1), 3);
    }

    private static void lot() {
        promise = "17 lot";
        FishTins x = works();
        x.land(2, 30, 4);
        x.land(1, 40, 0);
        due("size", x.lot(0, 0), 2);
        due("size", x.lot(1, 0), 1);
        due("left", x.lot(0, 1), 30);
        due("stale hour", x.lot(0, 2), 19);
        due("stale hour", x.lot(1, 2), 23);
        due("iced", x.lot(0, 3), 0);
        due("recalled", x.lot(0, 4), 0);
        x.ice(100);
        x.iced(0);
        x.recall(1);
        due("stale hour", x.lot(0, 2), 39);
        due("iced", x.lot(0, 3), 1);
        due("iced", x.lot(1, 3), 0);
        due("recalled", x.lot(0, 4), 0);
        due("recalled", x.lot(1, 4), 1);
        due("what 5", x.lot(0, 5), NONE);
        due("lot 2", x.lot(2, 0), NONE);
        for (int w : WILD) {
            due("what " + w, x.lot(0, w), NONE);
            due("lot " + w, x.lot(w, 0), NONE);
        }
        x.go(400);
        due("meal", x.lot(0, 1), 0);
        due("stale hour", x.lot(0, 2), 39);
        due("iced", x.lot(0, 3), 1);
    }

    private static void batch() {
        promise = "18 batch";
        FishTins x = stocked();
        due("kind", x.batch(0, 0), 0);
        due("kind", x.batch(1, 0), 1);
        due("there", x.batch(1, 1), 10);
        due("done", x.batch(0, 2), 4);
        due("done", x.batch(1, 2), 5);
        due("barred", x.batch(1, 3), 0);
        x.sell(0, 1, 3);
        due("there", x.batch(1, 1), 7);
        due("at first", x.batch(1, 4), 10);
        due("worth", x.batch(1, 5), 25);
        x.recall(1);
        due("barred", x.batch(1, 3), 1);
        due("barred", x.batch(0, 3), 0);
        x.go(400);
        x.go(272);
        due("worth more", x.batch(1, 5), 27);
        due("worth more", x.batch(0, 5), 11);
        due("what 6", x.batch(0, 6), NONE);
        due("batch 2", x.batch(2, 0), NONE);
        for (int w : WILD) {
            due("what " + w, x.batch(0, w), NONE);
            due("batch " + w, x.batch(w, 0), NONE);
        }
    }

    private static void of() {
        promise = "19 of";
        FishTins x = stocked();
        due("of", x.of(0, 0), 40);
        due("of", x.of(0, 1), 0);
        due("of", x.of(1, 0), 10);
        due("of", x.of(1, 1), 20);
        x.sell(0, 1, 10);
        due("as it was done", x.of(1, 1), 20);
        due("lot 2", x.of(0, 2), NONE);
        due("batch 2", x.of(2, 0), NONE);
        x.land(0, 10, 0);
        due("a later lot", x.of(0, 2), 0);
        x.recall(0);
        x.go(400);
        due("still", x.of(1, 0), 10);
        for (int w : WILD) {
            due("batch " + w, x.of(w, 0), NONE);
            due("lot " + w, x.of(0, w), NONE);
        }
    }

    private static void cooker() {
        promise = "20 cooker";
        FishTins x = works();
        x.land(0, 200, 0);
        x.pack(2, 1, 7);
        due("kind", x.cooker(2, 0), 1);
        due("cases", x.cooker(2, 1), 7);
        due("done", x.cooker(2, 2), 5);
        due("free", x.cooker(0, 0), NONE);
        due("free", x.cooker(0, 1), 0);
        due("free", x.cooker(0, 2), NONE);
        due("what 3", x.cooker(2, 3), NONE);
        due("cooker 3", x.cooker(3, 1), NONE);
        for (int w : WILD) {
            due("what " + w, x.cooker(2, w), NONE);
            due("cooker " + w, x.cooker(w, 1), NONE);
        }
        x.pack(0, 0, 3);
        due("kind", x.cooker(0, 0), 0);
        due("done", x.cooker(0, 2), 4);
        x.go(1);
        due("free", x.cooker(0, 1), 0);
        due("cooking", x.cooker(2, 1), 7);
        x.go(1);
        due("free", x.cooker(2, 0), NONE);
        due("free", x.cooker(2, 1), 0);
        due("free", x.cooker(2, 2), NONE);
    }

    private static void told() {
        promise = "21 told";
        FishTins x = stocked();
        x.contract(3, 1, 8, 2);
        x.contract(4, 0, 5, 0);
        int[] want = {3, 1, 8, 2, 0, 0};
        for (int what = 0; what < 6; what++) {
            due("what " + what, x.told(0, what), want[what]);
        }
        x.sell(3, 1, 6);
        due("had", x.told(0, 4), 6);
        due("had", x.told(1, 4), 0);
        x.go(168);
        due("over", x.told(1, 5), 1);
        due("customer", x.told(1, 0), 4);
        due("cases", x.told(1, 2), 5);
        due("not over", x.told(0, 5), 0);
        due("what 6", x.told(0, 6), NONE);
        due("contract 2", x.told(2, 0), NONE);
        for (int w : WILD) {
            due("what " + w, x.told(0, w), NONE);
            due("contract " + w, x.told(w, 0), NONE);
        }
    }

    private static void count() {
        promise = "22 count";
        FishTins x = stocked();
        x.ice(77);
        x.contract(0, 1, 12, 0);
        x.sell(0, 1, 2);
        x.pack(2, 1, 3);
        x.pack(0, 1, 2);
        x.fail(0);
        int[] want = {5, 2, 65, 9, 70, 6, 2, 3, 15, 50, 0, 77, 980, 985};
        for (int what = 0; what < want.length; what++) {
            due("count(" + what + ")", x.count(what), want[what]);
        }
        x.go(400);
        int[] later = {405, 2, 0, 0, 79, 71, 3, 0, 0, 50, 10 * 2 * 25, 77, 980, 985};
        for (int what = 0; what < later.length; what++) {
            due("later count(" + what + ")", x.count(what), later[what]);
        }
        for (int w : new int[] {14, 15, -1, -2, 100, Integer.MIN_VALUE, Integer.MAX_VALUE}) {
            due("count(" + w + ")", x.count(w), NONE);
        }
    }

    private static void allKilograms() {
        promise = "terms 2, all kilograms";
        FishTins x = works();
        int came = 0;
        for (int i = 0; i < 60; i++) {
            int kilograms = 100 + i * 7;
            came += x.land(i % 3, kilograms, i % 20) == NONE ? 0 : kilograms;
            x.pack(i % 3, i % 2, 5 + i % 9);
            if (i % 7 == 0) {
                x.fail(i % 3);
            }
            if (i % 3 == 0) {
                x.go(1);
            }
            x.call(i % 3);
            due("all", x.count(2) + x.count(3) + x.count(4) + x.count(5), came);
        }
        x.go(40);
        due("none in lots", x.count(2), 0);
        due("none in charges", x.count(3), 0);
        due("all", x.count(4) + x.count(5), came);
        due("some were made", x.count(6) > 5, true);
    }

    private static void refusedChangesNothing() {
        promise = "terms, what is refused changes nothing";
        FishTins x = stocked();
        x.contract(0, 0, 4, 1);
        x.ice(10);
        x.pack(2, 1, 3);
        String before = state(x);
        x.land(0, 5001, 0);
        x.land(0, 10, 20);
        x.ice(0);
        x.iced(0);
        x.iced(1);
        x.kind(0, 1011, 99);
        x.kind(2, 1011, 100);
        x.sauce(0, 10001);
        x.call(0);
        x.pack(0, 0, 50);
        x.pack(0, 0, 30);
        x.pack(2, 0, 1);
        x.fail(0);
        x.go(-1);
        x.go(401);
        x.sell(0, 0, 21);
        x.sell(6, 0, 1);
        x.contract(0, 0, 501, 1);
        x.contract(0, 0, 5, 30);
        x.recall(2);
        x.go(0);
        due("state is the same", state(x).equals(before), true);
        if (!state(x).equals(before)) {
            System.out.println(before + "\n" + state(x));
        }
    }

    private static String state(FishTins x) {
        StringBuilder text = new StringBuilder();
        for (int what = 0; what <= 13; what++) {
            text.append(x.count(what)).append(' ');
        }
        for (int i = 0; i < 3; i++) {
            for (int what = 0; what < 7; what++) {
                text.append(x.lot(i, what)).append(' ').append(x.batch(i, what)).append(' ');
                text.append(x.cooker(i, what)).append(' ').append(x.told(i, what)).append(' ');
            }
            text.append(x.plan(i)).append(' ').append(x.lacks(i)).append(' ').append(x.of(i, 0)).append(' ');
        }
        return text.append(x.worth()).toString();
    }
}
