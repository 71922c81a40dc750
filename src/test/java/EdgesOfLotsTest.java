/** A test for each sentence that names an edge: promises 1 to 4 and 17, and how long a lot is fresh. */
public final class EdgesOfLotsTest {
    private static final int[] FAR = {Integer.MIN_VALUE, Integer.MIN_VALUE + 1, -1000, Integer.MAX_VALUE};

    public static void main(String[] args) {
        aNewObjectHasNothing();
        aNewObjectIsAlone();
        numbersBeginWith0();
        the512thCall();
        landSize();
        landKilograms();
        landAgo();
        landCaughtBelow0();
        landFresh();
        landSixty();
        landSixtyThatCame();
        landInTheLastHour();
        freshTill20();
        freshTill40();
        freshWasCaughtBelow0();
        freshIsPackedTill20();
        mealIsAllThatIsLeft();
        mealLeavesTheNumber();
        iceKilograms();
        iceThereAtMost();
        iceHasRoomAgain();
        icedNoneSuch();
        icedFresh();
        icedFishLeft();
        icedOnce();
        icedSoMuchIce();
        icedTakesOneAKilogram();
        lotNoneSuch();
        lotOthers();
        lotOfSixty();
        Works.end("the edges of lots hold");
    }

    /** A works with kinds 0 and 1 (sizes 0, or all; 1 kilogram, 1 hour) and sauce, whose crews come in hour 3. */
    private static Works works(String sentence) {
        return new Works(sentence).does("kind(0, 1011, 10)", "kind(1, 7111, 10)", "sauce(0, 500)", "sauce(1, 500)",
            "call(0)", "call(1)", "call(2)");
    }

    private static void aNewObjectHasNothing() {
        Works w = new Works("1: No LOTS, no KINDS; NOW is 0");
        for (int what = 0; what < 14; what++) {
            w.due("count(" + what + ")", 0);
        }
        w.refused("lot(0, 0)").refused("lot(0, 1)").refused("iced(0)").refused("recall(0)").refused("of(0, 0)");
        for (int kind = 0; kind < 4; kind++) {
            w.refused("plan(" + kind + ")").refused("pack(0, " + kind + ", 1)").refused("sell(0, " + kind + ", 1)");
            w.refused("contract(0, " + kind + ", 1, 0)");
        }
        w.due("worth()", 0).refused("batch(0, 0)").refused("told(0, 0)").refused("lacks(0)");
        for (int cooker = 0; cooker < 3; cooker++) {
            w.due("cooker(" + cooker + ", 0)", -1).due("cooker(" + cooker + ", 1)", 0);
            w.due("cooker(" + cooker + ", 2)", -1).refused("fail(" + cooker + ")");
        }
        w.due("go(0)", 0);
    }

    private static void aNewObjectIsAlone() {
        Works first = works("1: a new object beside one that is used").does("land(0, 10, 0)", "ice(5)", "go(3)");
        Works second = new Works("1: a new object beside one that is used");
        second.due("count(0)", 0).due("count(1)", 0).due("count(11)", 0).due("count(12)", 0).refused("plan(0)");
        second.does("land(2, 7, 0)", "land(2, 7, 0)");
        first.due("count(1)", 1).due("count(2)", 10).due("count(0)", 3);
    }

    private static void numbersBeginWith0() {
        Works w = works("1: the first numbers are 0");
        w.due("land(0, 10, 0)", 0).due("land(0, 10, 0)", 1);
        w.due("contract(0, 0, 1, 0)", 0).due("contract(0, 0, 1, 0)", 1).does("go(3)", "pack(0, 0, 1)", "go(1)");
        w.due("batch(0, 4)", 1).refused("batch(1, 4)");
    }

    private static void the512thCall() {
        Works w = works("An object is used for at most 512 calls");
        for (int calls = 7; calls < 510; calls++) {
            w.does("go(1)");
        }
        w.due("land(0, 10, 0)", 0).due("count(0)", 503);
    }

    private static void landSize() {
        Works w = new Works("2: NONE if there is no such SIZE");
        w.due("land(0, 10, 0)", 0).refused("land(-1, 10, 0)").refused("land(3, 10, 0)").due("land(2, 10, 0)", 1);
        w.refused("land(", FAR, ", 10, 0)").due("land(1, 10, 0)", 2);
        w.due("lot(0, 0)", 0).due("lot(1, 0)", 2).due("lot(2, 0)", 1);
    }

    private static void landKilograms() {
        Works w = new Works("2: NONE if kilograms aren't 1 .. 5000");
        w.refused("land(0, 0, 0)").due("land(0, 1, 0)", 0).refused("land(0, 5001, 0)").due("land(0, 5000, 0)", 1);
        w.refused("land(0, -1, 0)").refused("land(0, ", FAR, ", 0)");
        w.due("lot(0, 1)", 1).due("lot(1, 1)", 5000).due("count(2)", 5001);
    }

    private static void landAgo() {
        Works w = new Works("2: NONE if ago isn't 0 .. 39").does("go(100)");
        w.refused("land(0, 10, -1)").due("land(0, 10, 0)", 0).refused("land(0, 10, 40)").refused("land(0, 10, 41)");
        w.refused("land(0, 10, ", FAR, ")").due("lot(0, 2)", 120);
    }

    private static void landCaughtBelow0() {
        Works w = new Works("2: it was caught so many HOURS ago, below 0, too");
        w.due("land(0, 10, 19)", 0).due("lot(0, 2)", 1).due("land(0, 10, 1)", 1).due("lot(1, 2)", 19);
        w.does("go(5)").due("land(0, 10, 5)", 2).due("lot(2, 2)", 20).due("land(0, 10, 6)", 3).due("lot(3, 2)", 19);
        w.due("land(0, 10, 19)", 4).due("lot(4, 2)", 6);
    }

    private static void landFresh() {
        Works w = new Works("2: NONE if it isn't FRESH").does("ice(100000)");
        w.due("land(0, 10, 19)", 0).refused("land(0, 10, 20)").refused("land(0, 10, 39)");
        w.does("go(50)").due("land(1, 10, 19)", 1).refused("land(1, 10, 20)").refused("land(1, 10, 21)");
    }

    private static void landSixty() {
        Works w = new Works("2: NONE if 60 came");
        for (int lot = 0; lot < 59; lot++) {
            w.due("land(" + lot % 3 + ", 5000, " + lot % 20 + ")", lot);
        }
        w.due("land(2, 5000, 0)", 59).refused("land(0, 1, 0)").refused("land(2, 5000, 19)");
        w.due("count(1)", 60).due("count(2)", 300000);
    }

    private static void landSixtyThatCame() {
        Works w = new Works("2: 60 that came, not 60 that are left");
        for (int lot = 0; lot < 60; lot++) {
            w.refused(lot % 2 == 0 ? "land(3, 10, 0)" : "land(0, 10, 20)").due("land(0, 10, 19)", lot);
        }
        w.does("go(1)").due("count(2)", 0).due("count(5)", 600).refused("land(0, 10, 0)").due("count(1)", 60);
    }

    private static void landInTheLastHour() {
        Works w = new Works("2: a LOT comes in HOUR 5000");
        for (int i = 0; i < 13; i++) {
            w.does("go(400)");
        }
        w.due("land(0, 10, 0)", 0).due("lot(0, 2)", 5020).refused("land(0, 10, 20)").due("land(0, 10, 19)", 1);
        w.due("lot(1, 2)", 5001).due("go(400)", 5000).due("lot(1, 1)", 10).does("ice(10)").due("iced(1)", 1);
    }

    private static void freshTill20() {
        Works w = works("FRESH till 20 HOURS behind; in the HOUR in which it is that old it isn't any more");
        w.does("land(0, 10, 0)", "go(19)").due("lot(0, 1)", 10).due("worth()", 100).due("count(5)", 0);
        w.due("lot(0, 2)", 20).does("go(1)").due("lot(0, 1)", 0).due("worth()", 0).due("count(5)", 10);
        w.due("count(2)", 0).due("lot(0, 2)", 20).does("go(1)").due("count(5)", 10);
    }

    private static void freshTill40() {
        Works w = works("FRESH till 40 HOURS behind if it was ICED").does("land(0, 10, 0)", "land(0, 7, 0)", "ice(10)");
        w.due("iced(0)", 1).due("lot(0, 2)", 40).due("lot(1, 2)", 20).does("go(20)").due("lot(0, 1)", 10);
        w.due("lot(1, 1)", 0).due("count(5)", 7).does("go(19)").due("lot(0, 1)", 10).due("worth()", 100);
        w.does("go(1)").due("lot(0, 1)", 0).due("worth()", 0).due("count(5)", 17).due("lot(0, 2)", 40);
    }

    private static void freshWasCaughtBelow0() {
        Works w = works("FRESH by the HOUR in which it was caught, not by that in which it came");
        w.does("land(0, 10, 19)", "land(0, 20, 18)", "land(0, 40, 19)", "ice(40)", "iced(2)");
        w.due("count(2)", 70).does("go(1)").due("count(2)", 60).does("go(1)").due("count(2)", 40);
        w.does("go(18)").due("count(2)", 40).does("go(1)").due("count(2)", 0).due("count(5)", 70);
    }

    private static void freshIsPackedTill20() {
        Works w = works("8: FRESH fish is packed, no other");
        w.does("go(3)", "land(0, 10, 18)", "land(0, 20, 19)", "ice(20)");
        w.does("iced(1)").due("pack(0, 0, 1)", 1).does("go(1)").due("pack(0, 0, 30)", -1).due("pack(0, 0, 29)", 29);
        Works late = works("8: FRESH fish is packed, no other").does("go(3)", "land(0, 10, 18)", "land(0, 20, 0)");
        late.does("go(2)").due("lot(0, 1)", 0).refused("pack(0, 0, 21)").due("pack(0, 0, 20)", 20);
    }

    private static void mealIsAllThatIsLeft() {
        Works w = works("LOTS that aren't FRESH any more go to MEAL, all that is left of them");
        w.does("kind(2, 1015, 5)", "go(3)", "land(0, 10, 18)", "go(1)").due("pack(0, 2, 4)", 4).does("go(1)");
        w.due("count(5)", 6).due("count(3)", 4).due("lot(0, 1)", 0).does("go(4)");
        w.due("count(4)", 4).due("of(0, 0)", 4).due("batch(0, 3)", 0).due("sell(0, 2, 4)", 20);
    }

    private static void mealLeavesTheNumber() {
        Works w = new Works("a LOT that is MEAL keeps its number").does("land(2, 10, 19)", "go(1)");
        w.due("count(1)", 1).due("lot(0, 0)", 2).due("lot(0, 1)", 0).due("lot(0, 2)", 1).due("lot(0, 3)", 0);
        w.due("land(0, 5, 0)", 1).due("recall(0)", 0).due("lot(0, 4)", 1);
    }

    private static void iceKilograms() {
        Works w = new Works("3: ICE comes (1 .. 100000)");
        w.refused("ice(0)").due("ice(1)", 1).refused("ice(100001)").due("ice(100000)", 100001).refused("ice(-1)");
        w.refused("ice(", FAR, ")").due("count(11)", 100001);
    }

    private static void iceThereAtMost() {
        Works w = new Works("3: 1000000 there at most");
        for (int i = 1; i < 10; i++) {
            w.due("ice(100000)", i * 100000);
        }
        w.due("ice(99999)", 999999).refused("ice(2)").refused("ice(100000)").due("ice(1)", 1000000).refused("ice(1)");
        w.refused("ice(100000)").due("count(11)", 1000000);
    }

    private static void iceHasRoomAgain() {
        Works w = new Works("3: 1000000 there at most, not 1000000 that came").does("land(0, 30, 0)");
        for (int i = 1; i <= 10; i++) {
            w.due("ice(100000)", i * 100000);
        }
        w.due("iced(0)", 1).due("count(11)", 999970).refused("ice(31)").due("ice(30)", 1000000);
    }

    private static void icedNoneSuch() {
        Works w = new Works("4: false if there is none such").does("ice(1000)").refused("iced(0)");
        w.does("land(0, 10, 0)");
        w.refused("iced(-1)").refused("iced(1)").refused("iced(60)").refused("iced(", FAR, ")").due("iced(0)", 1);
    }

    private static void icedFresh() {
        Works w = new Works("4: false if there is none such FRESH");
        w.does("ice(1000)", "land(0, 10, 0)", "land(0, 20, 0)", "go(19)").due("iced(0)", 1).does("go(1)");
        w.refused("iced(1)").due("count(11)", 990).due("lot(0, 1)", 10).due("lot(1, 3)", 0).does("go(20)");
        w.refused("iced(0)").due("lot(0, 1)", 0);
    }

    private static void icedFishLeft() {
        Works w = works("4: false if there is none such with fish left").does("ice(1000)", "go(3)");
        w.does("land(0, 10, 0)", "land(0, 10, 0)", "pack(0, 0, 19)").refused("iced(0)").due("iced(1)", 1);
        w.due("count(11)", 999).due("lot(0, 2)", 23).due("lot(1, 2)", 43);
    }

    private static void icedOnce() {
        Works w = works("4: false if it was so").does("ice(1000)", "land(0, 10, 0)").due("iced(0)", 1);
        w.refused("iced(0)");
        w.due("count(11)", 990).does("go(3)", "pack(0, 0, 4)").refused("iced(0)").does("go(36)").refused("iced(0)");
        w.due("count(11)", 990).due("lot(0, 2)", 40);
    }

    private static void icedSoMuchIce() {
        Works w = new Works("4: false if there isn't so much ICE").does("land(0, 10, 0)", "land(1, 1, 0)");
        w.refused("iced(0)").refused("iced(1)").does("ice(9)").refused("iced(0)").does("ice(1)").due("iced(0)", 1);
        w.due("count(11)", 0).refused("iced(1)").does("ice(1)").due("iced(1)", 1).due("count(11)", 0);
        Works most = new Works("4: false if there isn't so much ICE").does("land(0, 5000, 0)", "ice(4999)");
        most.refused("iced(0)").due("lot(0, 2)", 20).does("ice(2)").due("iced(0)", 1).due("count(11)", 1);
    }

    private static void icedTakesOneAKilogram() {
        Works w = works("each kilogram takes one of ICE").does("go(3)", "land(0, 50, 0)", "ice(30)", "pack(0, 0, 19)");
        w.refused("iced(0)").does("pack(1, 0, 1)").due("iced(0)", 1).due("count(11)", 0);
        w.does("ice(5)", "pack(2, 0, 30)").due("count(11)", 5).due("count(2)", 0);
        Works recalled = new Works("4: a RECALLED one is FRESH, too").does("land(0, 8, 0)", "ice(8)", "recall(0)");
        recalled.due("iced(0)", 1).does("go(39)").due("count(2)", 8).does("go(1)").due("count(5)", 8);
    }

    private static void lotNoneSuch() {
        Works w = new Works("17: NONE if there is none such").refused("lot(0, 0)");
        w.does("land(1, 10, 0)", "land(2, 20, 1)");
        for (int what = 0; what < 5; what++) {
            w.refused("lot(-1, " + what + ")").refused("lot(2, " + what + ")").refused("lot(", FAR, ", " + what + ")");
        }
        w.due("lot(0, 0)", 1).due("lot(1, 0)", 2);
    }

    private static void lotOthers() {
        Works w = new Works("17: 0 .. 4; NONE for others").does("land(1, 10, 3)", "ice(10)");
        int[] want = {1, 10, 17, 0, 0};
        for (int what = 0; what < 5; what++) {
            w.due("lot(0, " + what + ")", want[what]);
        }
        w.refused("lot(0, -1)").refused("lot(0, 5)").refused("lot(0, ", FAR, ")").does("iced(0)");
        w.due("lot(0, 3)", 1).due("lot(0, 4)", 0).does("recall(0)").due("lot(0, 4)", 1).due("lot(0, 1)", 10);
    }

    private static void lotOfSixty() {
        Works w = new Works("17: the last of 60 LOTS");
        for (int lot = 0; lot < 60; lot++) {
            w.does("land(" + lot % 3 + ", " + (lot + 1) + ", 0)");
        }
        w.due("lot(59, 1)", 60).due("lot(59, 0)", 2).refused("lot(60, 1)").does("ice(60)").due("iced(59)", 1);
        w.refused("iced(60)").due("recall(59)", 0).refused("recall(60)").due("lot(59, 4)", 1).due("lot(58, 4)", 0);
    }
}
