/** A test for each sentence that names an edge: promises 5 to 10 and 18 to 20, what is packed, cooked and done. */
public final class EdgesOfTinsTest {
    private static final int[] FAR = {Integer.MIN_VALUE, Integer.MIN_VALUE + 1, -1000, Integer.MAX_VALUE};

    public static void main(String[] args) {
        kindNoneSuch();
        kindToldOnce();
        kindSizes();
        kindSauce();
        kindFish();
        kindHours();
        kindPrice();
        kindFar();
        sauceNoneSuch();
        sauceMeasures();
        sauceThereAtMost();
        sauceHasRoomAgain();
        callNoneSuch();
        callComes();
        callThereFor8();
        callAgain();
        callInTheLastHour();
        packCooker();
        packCookerFree();
        packKind();
        packCases();
        packFish();
        packSizes();
        packRecalled();
        packSauce();
        packNoCrew();
        packCrews();
        packCrewsInThisHour();
        packCrewThatWent();
        packByHoursCaught();
        packByNumbers();
        packOfManyLots();
        packHundred();
        packHundredWithCharges();
        doneAsHoursAreOver();
        doneByCookers();
        doneInTheLastHour();
        failNoneSuch();
        failWithACharge();
        failBeforeItIsDone();
        failAllItsFish();
        failFrees();
        goHours();
        goUpTo5000();
        goNoHours();
        goOneByOne();
        batchNoneSuch();
        batchOthers();
        ofNoneSuch();
        ofAsItWasDone();
        cookerNoneSuch();
        cookerOthers();
        cookerFree();
        Works.end("the edges of tins hold");
    }

    /** A works in hour 3 with all crews, 500 of each sauce, and the kinds 0 (size 0) and 1 (all sizes). */
    private static Works works(String sentence) {
        return new Works(sentence).does("kind(0, 1021, 10)", "kind(1, 7112, 30)", "sauce(0, 500)", "sauce(1, 500)",
            "call(0)", "call(1)", "call(2)", "go(3)");
    }

    private static void kindNoneSuch() {
        Works w = new Works("5: false if there is none such").refused("kind(-1, 1011, 5)").refused("kind(4, 1011, 5)");
        w.refused("kind(", FAR, ", 1011, 5)").due("kind(0, 1011, 5)", 1).due("kind(3, 1011, 5)", 1);
        w.due("plan(0)", 0).due("plan(3)", 0).refused("plan(1)").refused("plan(2)");
    }

    private static void kindToldOnce() {
        Works w = new Works("5: false if it was told").due("kind(2, 1011, 5)", 1).refused("kind(2, 1011, 5)");
        w.refused("kind(2, 7195, 99)").does("sauce(0, 10)", "land(0, 10, 0)").due("worth()", 50);
        w.due("kind(1, 7195, 99)", 1).refused("kind(1, 1011, 5)").refused("kind(2, 1011, 6)");
    }

    private static void kindSizes() {
        Works w = new Works("5: SIZES 1 .. 7").refused("kind(0, 11, 5)").refused("kind(0, 111, 5)");
        w.refused("kind(0, 8011, 5)").refused("kind(0, 9011, 5)").refused("kind(0, 10011, 5)");
        w.due("kind(0, 1011, 5)", 1).due("kind(1, 7011, 5)", 1).due("kind(2, 4011, 5)", 1).due("kind(3, 2011, 5)", 1);
        for (int sizes = 1; sizes <= 7; sizes++) {
            for (int size = 0; size < 3; size++) {
                Works of = new Works("SIZES that it takes (bits)").does("kind(0, " + sizes + "011, 5)", "sauce(0, 9)");
                of.does("land(" + size + ", 4, 0)").due("plan(0)", (sizes >> size) % 2 == 1 ? 4 : 0);
            }
        }
    }

    private static void kindSauce() {
        Works w = new Works("5: SAUCE 0 or 1").refused("kind(0, 1211, 5)").refused("kind(0, 1911, 5)");
        w.due("kind(0, 1011, 5)", 1).due("kind(1, 1111, 5)", 1).does("sauce(0, 3)", "sauce(1, 4)", "land(0, 100, 0)");
        w.due("plan(0)", 3).due("plan(1)", 4);
    }

    private static void kindFish() {
        Works w = new Works("5: fish 1 .. 9 kilograms a case").refused("kind(0, 1001, 5)").refused("kind(0, 1101, 5)");
        w.due("kind(0, 1011, 5)", 1).due("kind(1, 2091, 5)", 1);
        w.does("sauce(0, 100)", "land(0, 19, 0)", "land(1, 19, 0)");
        w.due("plan(0)", 19).due("plan(1)", 2);
    }

    private static void kindHours() {
        Works w = new Works("5: HOURS that it cooks 1 .. 5").refused("kind(0, 1010, 5)").refused("kind(0, 1016, 5)");
        w.refused("kind(0, 1019, 5)").due("kind(0, 1011, 5)", 1).due("kind(1, 1015, 5)", 1);
        w.does("sauce(0, 9)", "call(0)", "go(3)", "land(0, 9, 0)", "pack(0, 0, 1)", "pack(1, 1, 1)");
        w.due("cooker(0, 2)", 4).due("cooker(1, 2)", 8);
    }

    private static void kindPrice() {
        Works w = new Works("5: a PRICE a case 1 .. 99").refused("kind(0, 1011, 0)").refused("kind(0, 1011, 100)");
        w.refused("kind(0, 1011, -1)").refused("kind(0, 1011, ", FAR, ")").due("kind(0, 1011, 1)", 1);
        w.due("kind(1, 2011, 99)", 1).does("sauce(0, 9)", "land(0, 1, 0)", "land(1, 1, 0)").due("worth()", 100);
    }

    private static void kindFar() {
        Works w = new Works("5: false if it can't be").refused("kind(0, ", FAR, ", 5)").refused("kind(0, 0, 5)");
        int[] whats = {-1, -1011, -7195, -999, 1000, 1100, 7196, 7199, 7200, 8000, 71951, 65536 + 1011};
        w.refused("kind(0, ", whats, ", 5)").due("kind(0, 7195, 5)", 1);
    }

    private static void sauceNoneSuch() {
        Works w = new Works("6: NONE if there is no such SAUCE").refused("sauce(-1, 5)").refused("sauce(2, 5)");
        w.refused("sauce(", FAR, ", 5)").due("sauce(0, 5)", 5).due("sauce(1, 6)", 6).due("count(12)", 5);
        w.due("count(13)", 6);
    }

    private static void sauceMeasures() {
        Works w = new Works("6: SAUCE comes (1 .. 10000)").refused("sauce(0, 0)").due("sauce(0, 1)", 1);
        w.refused("sauce(0, 10001)").due("sauce(0, 10000)", 10001).refused("sauce(0, -1)");
        w.refused("sauce(1, ", FAR, ")");
        w.refused("sauce(1, 0)").refused("sauce(1, 10001)").due("sauce(1, 10000)", 10000).due("sauce(1, 1)", 10001);
    }

    private static void sauceThereAtMost() {
        for (int sauce = 0; sauce < 2; sauce++) {
            String one = "sauce(" + sauce + ", ";
            Works w = new Works("6: 100000 there at most");
            for (int i = 1; i < 10; i++) {
                w.due(one + "10000)", i * 10000);
            }
            w.due(one + "9999)", 99999).refused(one + "2)").refused(one + "10000)").due(one + "1)", 100000);
            w.refused(one + "1)").due("count(" + (12 + sauce) + ")", 100000);
            w.due("sauce(" + (1 - sauce) + ", 10000)", 10000).due("count(" + (13 - sauce) + ")", 10000);
        }
    }

    private static void sauceHasRoomAgain() {
        Works w = works("6: 100000 there at most, not 100000 that came").does("land(0, 100, 0)", "sauce(0, 9500)");
        for (int i = 2; i <= 10; i++) {
            w.due("sauce(0, 10000)", i * 10000);
        }
        w.does("pack(0, 0, 7)").refused("sauce(0, 8)").due("sauce(0, 7)", 100000).refused("sauce(0, 1)");
    }

    private static void callNoneSuch() {
        Works w = new Works("7: NONE if there is none such").refused("call(-1)").refused("call(3)");
        w.refused("call(", FAR, ")").due("call(0)", 3).due("call(2)", 3).due("call(1)", 3).does("go(3)");
        w.due("count(7)", 3);
    }

    private static void callComes() {
        Works w = new Works("called, one comes 3 HOURS later").due("call(1)", 3).due("count(7)", 0).does("go(2)");
        w.due("count(7)", 0).does("go(1)").due("count(7)", 1).does("go(97)").due("call(2)", 103).does("go(2)");
        w.due("count(7)", 0).does("go(1)").due("count(7)", 1);
    }

    private static void callThereFor8() {
        Works w = new Works("and is there for 8 HOURS").does("call(0)", "go(1)", "call(1)", "go(2)").due("count(7)", 1);
        w.does("go(7)").due("count(0)", 10).due("count(7)", 2).does("go(1)").due("count(7)", 1).does("go(1)");
        w.due("count(7)", 0);
    }

    private static void callAgain() {
        Works w = new Works("7: NONE if it was called and isn't gone again").does("call(0)").refused("call(0)");
        w.does("go(2)").refused("call(0)").does("go(1)").refused("call(0)").does("go(7)").refused("call(0)");
        w.due("call(1)", 13).does("go(1)").due("call(0)", 14).refused("call(0)").refused("call(1)").does("go(3)");
        w.due("count(7)", 2).does("go(7)").refused("call(0)").due("count(7)", 1).due("call(1)", 24);
        w.does("go(1)").due("call(0)", 25);
    }

    private static void callInTheLastHour() {
        Works w = new Works("7: a CREW is called in HOUR 5000");
        for (int i = 0; i < 12; i++) {
            w.does("go(400)");
        }
        w.does("go(195)").due("call(0)", 4998).does("go(2)").due("call(1)", 5000).does("go(3)").due("count(7)", 2);
        w.due("call(2)", 5003).refused("call(2)").due("go(9)", 5000).due("count(7)", 2).refused("call(1)");
    }

    private static void packCooker() {
        Works w = works("8: NONE if there is no such COOKER").does("land(0, 300, 0)").refused("pack(-1, 0, 1)");
        w.refused("pack(3, 0, 1)").refused("pack(", FAR, ", 0, 1)").due("pack(0, 0, 1)", 2).due("pack(2, 0, 2)", 4);
        w.due("cooker(0, 1)", 1).due("cooker(1, 1)", 0).due("cooker(2, 1)", 2);
    }

    private static void packCookerFree() {
        Works w = works("8: NONE if there is no such COOKER free").does("land(0, 300, 0)", "pack(1, 1, 5)");
        w.refused("pack(1, 1, 1)").refused("pack(1, 0, 1)").does("go(1)").refused("pack(1, 0, 1)").does("go(1)");
        w.due("pack(1, 0, 1)", 2).refused("pack(1, 0, 1)").does("fail(1)").due("pack(1, 0, 1)", 2);
    }

    private static void packKind() {
        Works w = works("8: NONE if there is no such KIND told").does("land(0, 300, 0)").refused("pack(0, -1, 1)");
        w.refused("pack(0, 4, 1)").refused("pack(0, 2, 1)").refused("pack(0, 3, 1)").refused("pack(0, ", FAR, ", 1)");
        w.does("kind(3, 1011, 1)").due("pack(0, 3, 1)", 1).refused("pack(1, 2, 1)").due("pack(1, 0, 1)", 2);
    }

    private static void packCases() {
        Works w = works("8: NONE if n isn't 1 .. 50").does("land(0, 300, 0)").refused("pack(0, 1, 0)");
        w.refused("pack(0, 1, 51)").refused("pack(0, 1, -1)").refused("pack(0, 0, ", FAR, ")");
        w.due("pack(0, 1, 50)", 50);
        int[] wraps = {1 << 30, 1 << 31, (1 << 30) + 1, (1 << 31) + 1, (1 << 29) + 1};
        w.refused("pack(1, 0, ", wraps, ")").due("pack(1, 1, 1)", 1).due("count(13)", 449);
        Works heavy = new Works("8: NONE if n isn't 1 .. 50");
        heavy.does("kind(0, 1095, 5)", "sauce(0, 99)", "land(0, 450, 0)");
        heavy.does("call(0)", "call(1)", "call(2)", "go(3)").refused("pack(0, 0, 34)").due("pack(0, 0, 33)", 297);
    }

    private static void packFish() {
        Works w = works("8: if fish is there (kilograms a case times n)").refused("pack(0, 0, 1)");
        w.does("land(0, 1, 0)");
        w.refused("pack(0, 0, 1)").does("land(0, 8, 0)").refused("pack(0, 0, 5)").due("pack(0, 0, 4)", 8);
        w.due("count(2)", 1).refused("pack(1, 0, 1)").does("land(0, 1, 0)").due("pack(1, 0, 1)", 2).due("count(2)", 0);
        w.refused("pack(2, 1, 1)");
    }

    private static void packSizes() {
        Works w = works("8: fish of SIZES that it takes").does("kind(2, 2011, 5)", "land(0, 5, 0)", "land(1, 6, 1)");
        w.does("land(2, 7, 2)").refused("pack(0, 2, 7)").refused("pack(0, 0, 3)").due("pack(0, 2, 6)", 6);
        w.due("lot(0, 1)", 5).due("lot(2, 1)", 7).refused("pack(1, 2, 1)").refused("pack(1, 1, 13)");
        w.due("pack(1, 1, 12)", 12).due("count(2)", 0);
    }

    private static void packRecalled() {
        Works w = works("8: fish that is not RECALLED").does("land(0, 10, 1)", "land(0, 10, 0)", "recall(0)");
        w.refused("pack(0, 0, 6)").due("pack(0, 0, 5)", 10).due("lot(0, 1)", 10).due("lot(1, 1)", 0);
        w.refused("pack(1, 1, 1)");
    }

    private static void packSauce() {
        Works w = new Works("8: and SAUCE (one measure a case)").does("kind(0, 1021, 5)", "kind(1, 1121, 5)");
        w.does("land(0, 300, 0)", "call(0)", "go(3)").refused("pack(0, 0, 1)").does("sauce(1, 9)");
        w.refused("pack(0, 0, 1)");
        w.does("sauce(0, 4)").refused("pack(0, 0, 5)").due("pack(0, 0, 4)", 8).due("count(12)", 0).due("count(13)", 9);
        w.refused("pack(1, 0, 1)").refused("pack(1, 1, 10)").due("pack(1, 1, 9)", 18).due("count(13)", 0);
    }

    private static void packNoCrew() {
        Works w = new Works("8: CREWS that are there").does("kind(0, 1011, 5)", "sauce(0, 100)", "land(0, 300, 0)");
        w.refused("pack(0, 0, 1)").does("call(0)").refused("pack(0, 0, 1)").does("go(2)").refused("pack(0, 0, 1)");
        w.does("go(1)").due("pack(0, 0, 1)", 1).does("go(7)").due("pack(0, 0, 1)", 1).does("go(1)");
        w.refused("pack(0, 0, 1)");
    }

    private static void packCrews() {
        for (int crews = 1; crews <= 3; crews++) {
            Works w = new Works("Each that is there packs 100 kilograms an HOUR").does("kind(0, 1021, 5)");
            w.does("kind(1, 1011, 5)", "sauce(0, 200)", "land(0, 900, 0)");
            for (int crew = 0; crew < crews; crew++) {
                w.does("call(" + crew + ")");
            }
            w.does("go(3)");
            for (int cooker = 0; cooker < crews - 1; cooker++) {
                w.due("pack(" + cooker + ", 0, 50)", 100);
            }
            w.due("pack(2, 1, 50)", 50).does("fail(2)").due("count(8)", crews * 100 - 50).refused("pack(2, 0, 26)");
            w.due("pack(2, 0, 25)", 50).due("count(8)", crews * 100).does("fail(2)").refused("pack(2, 1, 1)");
        }
    }

    private static void packCrewsInThisHour() {
        Works w = new Works("have packed less in this HOUR by as much at least");
        w.does("kind(0, 1021, 5)", "sauce(0, 200)");
        w.does("land(0, 900, 0)", "call(0)", "go(3)", "pack(0, 0, 50)").refused("pack(1, 0, 1)").does("go(0)");
        w.refused("pack(1, 0, 1)").due("count(8)", 100).does("go(1)").due("count(8)", 0).due("pack(1, 0, 50)", 100);
        w.does("go(2)").due("count(8)", 0).due("pack(1, 0, 49)", 98).refused("pack(2, 0, 2)").due("pack(2, 0, 1)", 2);
    }

    private static void packCrewThatWent() {
        Works w = new Works("CREWS come and go");
        w.does("kind(0, 1021, 5)", "sauce(0, 200)", "call(0)", "go(1)", "call(1)");
        w.does("land(0, 900, 0)", "go(2)").due("pack(0, 0, 50)", 100).does("go(1)").due("pack(0, 0, 50)", 100);
        w.due("pack(1, 0, 50)", 100).does("go(7)").due("count(7)", 1).due("pack(0, 0, 50)", 100);
        w.refused("pack(1, 0, 1)");
        w.does("go(1)").due("count(7)", 0).refused("pack(1, 0, 1)");
    }

    private static void packByHoursCaught() {
        Works w = works("Fish is taken from LOTS by the HOUR caught").does("land(0, 10, 0)", "land(0, 10, 2)");
        w.does("land(0, 10, 1)", "ice(10)", "iced(1)", "go(1)", "land(0, 10, 4)").due("pack(0, 0, 18)", 36);
        w.due("lot(3, 1)", 0).due("lot(1, 1)", 0).due("lot(2, 1)", 0).due("lot(0, 1)", 4).does("go(1)");
        w.due("of(0, 3)", 10).due("of(0, 1)", 10).due("of(0, 2)", 10).due("of(0, 0)", 6);
        Works below = works("Fish is taken from LOTS by the HOUR caught").does("land(0, 10, 3)", "land(0, 10, 4)");
        below.does("land(0, 10, 2)").due("pack(0, 0, 1)", 2).due("lot(1, 1)", 8).due("pack(1, 0, 6)", 12);
        below.due("lot(1, 1)", 0).due("lot(0, 1)", 6).due("lot(2, 1)", 10);
    }

    private static void packByNumbers() {
        Works w = works("of like ones by numbers").does("land(1, 10, 5)", "land(0, 10, 0)", "go(1)", "land(2, 10, 1)");
        w.does("land(0, 10, 1)", "go(1)", "land(1, 10, 2)").due("pack(0, 1, 25)", 25);
        w.due("lot(0, 1)", 0).due("lot(1, 1)", 0).due("lot(2, 1)", 5).due("lot(3, 1)", 10).due("lot(4, 1)", 10);
        w.due("pack(1, 1, 6)", 6).due("lot(2, 1)", 0).due("lot(3, 1)", 9).due("lot(4, 1)", 10);
    }

    private static void packOfManyLots() {
        Works w = works("a CHARGE with fish of 50 LOTS");
        for (int lot = 0; lot < 60; lot++) {
            w.does("land(" + lot % 3 + ", 1, 0)");
        }
        w.due("pack(2, 1, 50)", 50).refused("pack(0, 1, 11)").due("pack(0, 1, 10)", 10).refused("pack(1, 1, 1)");
        w.does("go(2)").due("of(0, 50)", 1).due("of(0, 49)", 0).due("of(0, 59)", 1).due("of(1, 0)", 1);
        w.due("of(1, 49)", 1).due("of(1, 50)", 0).due("count(4)", 60).refused("of(0, 60)");
    }

    /** The works in an hour with a crew, 100 batches less some, and 1000 kilograms of size 0. */
    private static Works almostHundred(String sentence, int batches) {
        Works w = new Works(sentence).does("kind(0, 1011, 5)", "kind(1, 1012, 5)", "sauce(0, 1000)");
        int made = 0;
        for (int round = 0; round < 5; round++) {
            w.does("land(0, 1000, 0)", "call(0)", "go(3)");
            for (int hour = 0; hour < 7; hour++) {
                for (int cooker = 0; cooker < 3 && made < batches; cooker++) {
                    w.does("pack(" + cooker + ", 0, 1)");
                    made++;
                }
                w.does("go(1)");
            }
            w.does(round < 4 ? "go(20)" : "go(0)");
        }
        return w.due("count(6)", batches).due("count(7)", 1);
    }

    private static void packHundred() {
        Works w = almostHundred("8: NONE if BATCHES and CHARGES would be more than 100", 99);
        w.due("pack(0, 0, 1)", 1).refused("pack(1, 0, 1)").does("fail(0)").due("pack(1, 0, 1)", 1);
        w.refused("pack(0, 1, 1)");
        w.does("land(0, 10, 0)", "call(1)", "go(1)").due("count(6)", 100).does("go(2)").due("count(7)", 1);
        w.refused("pack(0, 0, 1)").refused("pack(2, 0, 1)").due("batch(99, 4)", 1).refused("batch(100, 4)");
        w.due("batch(99, 2)", 4 * 30 + 10 + 1).due("of(99, 4)", 1).refused("of(100, 4)").due("sell(0, 0, 100)", 500);
        w.refused("sell(0, 0, 1)").due("recall(4)", 1).due("batch(99, 3)", 1).due("batch(0, 3)", 0);
    }

    private static void packHundredWithCharges() {
        Works w = almostHundred("8: BATCHES and CHARGES, those of all COOKERS", 97);
        w.due("pack(0, 1, 1)", 1).due("pack(1, 0, 1)", 1).due("pack(2, 1, 1)", 1).does("call(1)", "go(1)");
        w.due("count(6)", 98).refused("pack(1, 0, 1)").does("go(1)").due("count(6)", 100);
        w.does("go(1)", "land(0, 9, 0)");
        w.due("count(7)", 1).refused("pack(0, 0, 1)").refused("pack(1, 0, 1)").refused("pack(2, 0, 1)");
    }

    private static void doneAsHoursAreOver() {
        for (int hours = 1; hours <= 5; hours++) {
            Works w = works("as so many HOURS are over it is DONE");
            w.does("kind(2, 101" + hours + ", 5)", "land(0, 9, 0)");
            w.does("pack(1, 2, 3)").due("cooker(1, 2)", 3 + hours).does("go(" + (hours - 1) + ")").due("count(6)", 0);
            w.due("count(3)", 3).due("cooker(1, 0)", 2).refused("batch(0, 1)").refused("sell(0, 2, 1)").does("go(1)");
            w.due("count(6)", 1).due("count(3)", 0).due("count(4)", 3).due("batch(0, 2)", 3 + hours);
            w.due("cooker(1, 0)", -1).due("sell(0, 2, 3)", 15);
        }
    }

    private static void doneByCookers() {
        Works w = works("numbers as they come; those of one HOUR by COOKERS").does("land(0, 99, 0)", "pack(2, 1, 1)");
        w.does("pack(0, 1, 2)", "go(1)", "pack(1, 0, 3)", "go(1)").due("batch(0, 4)", 2).due("batch(1, 4)", 3);
        w.due("batch(2, 4)", 1).does("pack(0, 1, 4)", "pack(2, 0, 5)", "pack(1, 0, 6)", "go(2)");
        w.due("batch(3, 4)", 6).due("batch(4, 4)", 5).due("batch(5, 4)", 4).due("batch(5, 2)", 7).due("batch(4, 2)", 6);
    }

    private static void doneInTheLastHour() {
        Works w = works("HOURS are 0 .. 5000: what is DONE in 5000 is, what would be later isn't");
        for (int i = 0; i < 12; i++) {
            w.does("go(400)");
        }
        w.does("go(190)", "call(0)", "go(6)").due("count(0)", 4999).does("land(0, 50, 19)", "pack(0, 0, 1)");
        w.does("pack(1, 1, 1)").due("cooker(0, 2)", 5000).due("cooker(1, 2)", 5001).does("go(400)");
        w.due("count(6)", 1).due("batch(0, 2)", 5000).due("cooker(1, 0)", 1).due("count(5)", 47).does("go(400)");
        w.due("count(6)", 1).due("cooker(1, 2)", 5001).due("fail(1)", 1).due("count(5)", 48);
        w.does("land(0, 9, 19)").due("pack(1, 1, 1)", 1).due("count(8)", 1).due("go(400)", 5000).due("count(8)", 1);
    }

    private static void failNoneSuch() {
        Works w = works("9: NONE if there is none such").does("land(0, 99, 0)", "pack(0, 1, 1)", "pack(2, 1, 2)");
        w.refused("fail(-1)").refused("fail(3)").refused("fail(", FAR, ")").due("fail(0)", 1).due("fail(2)", 2);
    }

    private static void failWithACharge() {
        Works w = works("9: NONE if there is none such with a CHARGE").refused("fail(0)").does("land(0, 99, 0)");
        w.does("pack(0, 0, 1)").refused("fail(1)").refused("fail(2)").due("fail(0)", 2).refused("fail(0)");
    }

    private static void failBeforeItIsDone() {
        Works w = works("If a COOKER FAILS before that, nothing is DONE").does("land(0, 99, 0)", "pack(0, 1, 5)");
        w.does("pack(1, 1, 7)", "pack(2, 0, 2)", "go(1)").refused("fail(2)").due("fail(1)", 7).does("go(1)");
        w.refused("fail(0)").refused("fail(1)").due("count(6)", 2).due("batch(0, 4)", 2).due("batch(1, 4)", 5);
        w.due("count(5)", 7).due("count(4)", 9).does("go(9)").due("count(6)", 2);
    }

    private static void failAllItsFish() {
        Works w = works("all its fish goes to MEAL").does("land(0, 10, 0)", "land(0, 10, 1)", "pack(0, 0, 8)");
        w.does("pack(1, 1, 2)").due("fail(0)", 16).due("count(5)", 16).due("count(3)", 2).due("count(2)", 2);
        w.due("lot(0, 1)", 2).due("count(8)", 18).due("count(12)", 492).does("go(2)").due("of(0, 0)", 2);
        w.due("of(0, 1)", 0).due("count(6)", 1);
    }

    private static void failFrees() {
        Works w = works("a COOKER that FAILED is free").does("land(0, 10, 0)", "land(1, 10, 0)", "pack(0, 0, 5)");
        w.does("fail(0)").due("cooker(0, 0)", -1).due("cooker(0, 1)", 0).due("cooker(0, 2)", -1);
        w.due("pack(0, 1, 10)", 10);
        w.does("go(2)").due("of(0, 0)", 0).due("of(0, 1)", 10).due("recall(0)", 0).due("batch(0, 3)", 0);
    }

    private static void goHours() {
        Works w = new Works("10: n HOURS go (0 .. 400); NONE for another n").refused("go(-1)").refused("go(401)");
        w.refused("go(", FAR, ")").due("go(0)", 0).due("go(400)", 400).due("go(1)", 401).refused("go(401)");
        w.refused("go(5000)").due("count(0)", 401);
    }

    private static void goUpTo5000() {
        Works w = new Works("10: up to 5000");
        for (int i = 1; i <= 12; i++) {
            w.due("go(400)", i * 400);
        }
        w.due("go(199)", 4999).due("go(1)", 5000).due("go(1)", 5000).due("go(0)", 5000).refused("go(401)");
        w.refused("go(-1)").due("count(0)", 5000);
        Works far = new Works("10: up to 5000");
        for (int i = 1; i <= 12; i++) {
            far.due("go(399)", i * 399);
        }
        far.due("go(212)", 5000).due("go(400)", 5000);
        Works beyond = new Works("10: up to 5000");
        for (int i = 1; i <= 12; i++) {
            beyond.due("go(400)", i * 400);
        }
        beyond.due("go(201)", 5000);
    }

    private static void goNoHours() {
        Works w = works("10: 0 HOURS go").does("land(0, 10, 19)", "pack(0, 0, 2)").due("go(0)", 3).due("count(8)", 4);
        w.due("count(2)", 6).due("count(6)", 0).due("count(7)", 3).due("go(1)", 4).due("count(8)", 0);
        w.due("count(2)", 0);
    }

    private static void goOneByOne() {
        Works at1 = works("10: n HOURS go as n times one");
        at1.does("land(0, 60, 7)", "land(1, 60, 0)", "ice(60)", "iced(0)");
        Works at30 = works("10: n HOURS go as n times one");
        at30.does("land(0, 60, 7)", "land(1, 60, 0)", "ice(60)", "iced(0)");
        at1.does("pack(0, 0, 3)", "pack(1, 1, 3)", "contract(0, 0, 5, 0)");
        at30.does("pack(0, 0, 3)", "pack(1, 1, 3)", "contract(0, 0, 5, 0)");
        for (int hour = 4; hour <= 203; hour++) {
            at1.due("go(1)", hour);
        }
        at30.due("go(200)", 203);
        int[] want = {203, 2, 0, 0, 9, 111, 2, 0, 0, 0, 100, 0, 497, 497};
        for (int what = 0; what < 14; what++) {
            at1.due("count(" + what + ")", want[what]);
            at30.due("count(" + what + ")", want[what]);
        }
        at1.due("batch(0, 2)", 4).due("batch(1, 2)", 5);
        at30.due("batch(0, 2)", 4).due("batch(1, 2)", 5);
    }

    private static void batchNoneSuch() {
        Works w = works("18: NONE if there is none such").refused("batch(0, 0)").does("land(0, 9, 0)", "pack(0, 0, 1)");
        w.refused("batch(0, 0)").does("go(1)");
        for (int what = 0; what < 6; what++) {
            w.refused("batch(-1, " + what + ")").refused("batch(1, " + what + ")");
            w.refused("batch(", FAR, ", " + what + ")");
        }
        w.due("batch(0, 0)", 0);
    }

    private static void batchOthers() {
        Works w = works("18: 0 .. 5; NONE for others").does("land(0, 9, 0)", "pack(0, 1, 9)", "go(2)", "sell(0, 1, 2)");
        int[] want = {1, 7, 5, 0, 9, 30};
        for (int what = 0; what < 6; what++) {
            w.due("batch(0, " + what + ")", want[what]);
        }
        w.refused("batch(0, -1)").refused("batch(0, 6)").refused("batch(0, ", FAR, ")").does("sell(1, 1, 7)");
        w.due("batch(0, 1)", 0).due("batch(0, 4)", 9).due("batch(0, 3)", 0);
    }

    private static void ofNoneSuch() {
        Works w = works("19: NONE if there is none such").refused("of(0, 0)").does("land(0, 9, 0)", "land(1, 9, 0)");
        w.refused("of(0, 0)").does("pack(0, 0, 2)").refused("of(0, 0)").does("go(1)").due("of(0, 0)", 4);
        w.due("of(0, 1)", 0);
        w.refused("of(-1, 0)").refused("of(1, 0)").refused("of(0, -1)").refused("of(0, 2)").refused("of(", FAR, ", 0)");
        w.refused("of(0, ", FAR, ")").refused("of(-1, -1)").refused("of(1, 2)").refused("of(1, -60)");
        w.refused("of(-1, 60)");
    }

    private static void ofAsItWasDone() {
        Works w = works("19: as it was DONE").does("land(0, 9, 0)", "pack(0, 1, 9)", "go(2)", "sell(0, 1, 9)");
        w.due("of(0, 0)", 9).does("recall(0)").due("of(0, 0)", 9).does("land(0, 5, 0)").due("of(0, 1)", 0);
        w.does("go(40)");
        w.due("of(0, 0)", 9).due("of(0, 1)", 0);
    }

    private static void cookerNoneSuch() {
        Works w = works("20: NONE if there is none such").does("land(0, 9, 0)", "pack(0, 0, 2)", "pack(2, 1, 3)");
        for (int what = 0; what < 3; what++) {
            w.refused("cooker(-1, " + what + ")").refused("cooker(3, " + what + ")");
            w.refused("cooker(", FAR, ", " + what + ")");
        }
        w.due("cooker(0, 1)", 2).due("cooker(2, 1)", 3).due("cooker(1, 1)", 0);
    }

    private static void cookerOthers() {
        Works w = works("20: 0 .. 2; NONE for others").does("land(0, 9, 0)", "pack(0, 1, 2)").due("cooker(0, 0)", 1);
        w.due("cooker(0, 1)", 2).due("cooker(0, 2)", 5).refused("cooker(0, -1)").refused("cooker(0, 3)");
        w.refused("cooker(0, ", FAR, ")").refused("cooker(1, -1)").refused("cooker(1, 3)");
    }

    private static void cookerFree() {
        Works w = works("20: NONE: free, 0, NONE").does("land(0, 9, 0)").due("cooker(1, 0)", -1).due("cooker(1, 1)", 0);
        w.due("cooker(1, 2)", -1).does("pack(1, 0, 4)").due("cooker(1, 0)", 0).due("cooker(1, 1)", 4);
        w.due("cooker(1, 2)", 4).does("go(1)").due("cooker(1, 0)", -1).due("cooker(1, 1)", 0).due("cooker(1, 2)", -1);
    }
}
