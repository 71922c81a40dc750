/** A test for each sentence that names an edge: promises 13 to 16 and 21, what is sold, owed, aged and called back. */
public final class EdgesOfSalesTest {
    private static final int[] FAR = {Integer.MIN_VALUE, Integer.MIN_VALUE + 1, -1000, Integer.MAX_VALUE};

    public static void main(String[] args) {
        ageOfFourWeeks();
        ageIsFromTheHourDone();
        ageUpToThreeTenths();
        ageTenthIsCut();
        ageOfEachBatch();
        sellCustomer();
        sellKind();
        sellCases();
        sellNotBarred();
        sellOldestFirst();
        sellOfHundredBatches();
        contractCustomer();
        contractKind();
        contractCases();
        contractWeekOfNow();
        contractWeek29();
        contractTwenty();
        contractTwentyThatCame();
        soldCountsForCustomerAndKind();
        soldCountsByWeeks();
        soldCountsByNumbers();
        soldCountsForThoseThatLack();
        soldCountsForThoseThatAreNotOver();
        soldBeforeTheContract();
        lacksNoneSuch();
        lacksOver();
        lacksOfThoseThatAreThere();
        lacksByWeeks();
        lacksByNumbers();
        lacksWhatOthersLack();
        lacksNotBarred();
        lacksOthersOfTheKind();
        weekEnds();
        weekEndsOnce();
        weekFine();
        weekFineOfNothing();
        weeksInOneGo();
        week29NeverEnds();
        recallNoneSuch();
        recallAlready();
        recallOfNothingSold();
        recallNotPacked();
        recallBars();
        recallDoneLater();
        recallDoneLaterOfOneKilogram();
        recallFailed();
        recallTellsCustomers();
        recallTellsOfSuchBatches();
        recallTwoLots();
        recallKeepsContracts();
        toldNoneSuch();
        toldOthers();
        toldOfTwenty();
        Works.end("the edges of sales hold");
    }

    /** A works in hour 3 with all crews, sauce, fish of sizes 0 and 1 (lots 0 and 1), and kinds 0 and 1 of them. */
    private static Works works(String sentence) {
        return new Works(sentence).does("kind(0, 1011, 10)", "kind(1, 2012, 25)", "sauce(0, 500)", "call(0)", "call(1)",
            "call(2)", "go(3)", "land(0, 100, 0)", "land(1, 100, 0)");
    }

    /** The works in hour 5 with 20 cases of kind 0 (batch 0, done in hour 4) and 10 of kind 1 (batch 1, hour 5). */
    private static Works stocked(String sentence) {
        return works(sentence).does("pack(0, 0, 20)", "pack(1, 1, 10)", "go(2)");
    }

    private static Works goes(Works w, int hours) {
        for (int left = hours; left > 0; left -= 400) {
            w.does("go(" + Math.min(400, left) + ")");
        }
        return w;
    }

    private static void ageOfFourWeeks() {
        Works w = stocked("a tenth more for each 4 WEEKS of AGE").due("batch(0, 5)", 10);
        goes(w, 4 * 168 - 2).due("count(0)", 675).due("batch(0, 5)", 10).due("sell(0, 0, 1)", 10).does("go(1)");
        w.due("batch(0, 5)", 11).due("sell(0, 0, 1)", 11).due("batch(1, 5)", 25).does("go(1)").due("batch(1, 5)", 27);
        goes(w, 4 * 168 - 2).due("batch(0, 5)", 11).does("go(1)").due("batch(0, 5)", 12).due("batch(1, 5)", 27);
        w.does("go(1)").due("batch(1, 5)", 29).due("sell(0, 1, 2)", 58);
    }

    private static void ageIsFromTheHourDone() {
        Works w = works("AGE of a BATCH: WEEKS since it was DONE, not since it was packed").does("kind(2, 1015, 50)");
        w.does("pack(0, 2, 5)", "go(5)");
        goes(w, 4 * 168 - 1).due("batch(0, 5)", 50).does("go(1)").due("batch(0, 5)", 55);
        Works turn = new Works("AGE is not the difference of two WEEKS' numbers");
        turn.does("kind(0, 1011, 10)", "sauce(0, 9)");
        turn.does("go(163)", "call(0)", "land(0, 9, 0)", "go(3)", "pack(0, 0, 9)", "go(1)").due("batch(0, 2)", 167);
        goes(turn, 4 * 168 - 1).due("count(0)", 838).due("batch(0, 5)", 10).does("go(1)").due("batch(0, 5)", 11);
    }

    private static void ageUpToThreeTenths() {
        Works w = stocked("up to three tenths");
        goes(w, 12 * 168 - 2).due("batch(0, 5)", 12).does("go(1)").due("batch(0, 5)", 13);
        goes(w, 4 * 168 - 1).due("batch(0, 5)", 13).does("go(1)").due("batch(0, 5)", 13).due("sell(0, 0, 3)", 39);
        goes(w, 2400).due("count(0)", 5000).due("batch(0, 5)", 13).due("batch(1, 5)", 31).due("sell(0, 0, 1)", 13);
    }

    private static void ageTenthIsCut() {
        int[] prices = {1, 9, 10, 19, 20, 39, 90, 99};
        for (int price : prices) {
            Works w = works("a tenth of it (cut)").does("kind(2, 1011, " + price + ")", "pack(2, 2, 9)", "go(1)");
            for (int tenths = 1; tenths <= 4; tenths++) {
                goes(w, 4 * 168).due("batch(0, 5)", price + price / 10 * Math.min(3, tenths));
            }
        }
    }

    private static void ageOfEachBatch() {
        Works w = stocked("13: each case is worth what its BATCH makes it");
        goes(w, 4 * 168).does("call(0)", "land(0, 50, 0)", "go(3)", "pack(0, 0, 10)", "go(1)");
        w.due("batch(0, 5)", 11).due("batch(2, 5)", 10).due("sell(1, 0, 22)", 20 * 11 + 2 * 10).due("batch(2, 1)", 8);
        w.due("count(9)", 240);
    }

    private static void sellCustomer() {
        Works w = stocked("13: NONE if there is no such CUSTOMER").refused("sell(-1, 0, 1)").refused("sell(6, 0, 1)");
        w.refused("sell(", FAR, ", 0, 1)").refused("sell(32, 0, 1)").due("sell(0, 0, 1)", 10).due("sell(5, 0, 1)", 10);
        w.due("recall(0)", 1 + 32);
    }

    private static void sellKind() {
        Works w = stocked("13: NONE if there is no such KIND told").refused("sell(0, -1, 1)").refused("sell(0, 4, 1)");
        w.refused("sell(0, 2, 1)").refused("sell(0, ", FAR, ", 1)").does("kind(2, 1011, 9)").refused("sell(0, 2, 1)");
        w.due("sell(0, 0, 1)", 10).due("sell(0, 1, 1)", 25);
    }

    private static void sellCases() {
        Works w = stocked("13: NONE if n isn't 1 .. as many cases of it as are there").refused("sell(0, 0, 0)");
        w.refused("sell(0, 0, -1)").refused("sell(0, 0, 21)").refused("sell(0, 0, ", FAR, ")").due("sell(0, 0, 1)", 10);
        w.refused("sell(0, 0, 20)").due("sell(0, 0, 19)", 190).refused("sell(0, 0, 1)").refused("sell(0, 0, 0)");
        w.refused("sell(0, 1, 11)").due("sell(0, 1, 10)", 250).refused("sell(0, 1, 1)").due("count(9)", 450);
    }

    private static void sellNotBarred() {
        Works w = stocked("13: as are there (not BARRED)");
        w.does("land(0, 8, 9)", "pack(0, 0, 8)", "go(1)", "sell(0, 0, 5)");
        w.refused("sell(0, 0, 24)").does("recall(0)").refused("sell(0, 0, 9)").due("sell(0, 0, 8)", 80);
        w.due("batch(0, 1)", 15).due("batch(2, 1)", 0).refused("sell(0, 0, 1)").due("count(9)", 130);
    }

    private static void sellOldestFirst() {
        Works w = works("of a KIND, those of the oldest BATCHES first (by numbers)");
        w.does("pack(2, 0, 5)", "pack(0, 0, 4)");
        w.does("pack(1, 1, 3)", "go(1)", "pack(0, 0, 3)", "go(1)").due("sell(0, 0, 4)", 40).due("batch(0, 1)", 0);
        w.due("batch(1, 1)", 5).due("sell(0, 0, 6)", 60).due("batch(1, 1)", 0).due("batch(2, 1)", 2);
        w.due("batch(3, 1)", 3);
        w.due("sell(0, 0, 2)", 20).refused("sell(0, 0, 1)").due("sell(0, 1, 3)", 75);
    }

    private static void sellOfHundredBatches() {
        Works w = new Works("13: SOLD of 100 BATCHES").does("kind(0, 1011, 5)", "sauce(0, 1000)");
        for (int round = 0; round < 5; round++) {
            w.does("land(0, 300, 0)", "call(0)", "go(3)");
            for (int i = 0; i < 20; i++) {
                w.does("pack(" + i % 3 + ", 0, 2)");
                if (i % 3 == 2 || i == 19) {
                    w.does("go(1)");
                }
            }
            w.does("go(20)");
        }
        w.due("count(6)", 100).refused("sell(0, 0, 201)").due("sell(0, 0, 199)", 995).due("batch(99, 1)", 1);
        w.due("batch(98, 1)", 0).due("sell(5, 0, 1)", 5).refused("sell(0, 0, 1)").due("recall(4)", 33);
    }

    private static void contractCustomer() {
        Works w = works("14: NONE if there is no such CUSTOMER").refused("contract(-1, 0, 1, 0)");
        w.refused("contract(6, 0, 1, 0)").refused("contract(", FAR, ", 0, 1, 0)").due("contract(0, 0, 1, 0)", 0);
        w.due("contract(5, 0, 1, 0)", 1).due("told(0, 0)", 0).due("told(1, 0)", 5);
    }

    private static void contractKind() {
        Works w = works("14: NONE if there is no such KIND told").refused("contract(0, -1, 1, 0)");
        w.refused("contract(0, 4, 1, 0)").refused("contract(0, 2, 1, 0)").refused("contract(0, ", FAR, ", 1, 0)");
        w.does("kind(3, 1011, 9)").due("contract(0, 3, 1, 0)", 0).due("contract(0, 0, 1, 0)", 1).due("told(0, 1)", 3);
    }

    private static void contractCases() {
        Works w = works("14: NONE if n isn't 1 .. 500").refused("contract(0, 0, 0, 0)");
        w.refused("contract(0, 0, 501, 0)");
        w.refused("contract(0, 0, -1, 0)").refused("contract(0, 0, ", FAR, ", 0)").due("contract(0, 0, 1, 0)", 0);
        w.due("contract(0, 0, 500, 0)", 1).due("told(0, 2)", 1).due("told(1, 2)", 500).due("lacks(1)", 500);
    }

    private static void contractWeekOfNow() {
        Works w = works("14: NONE if the WEEK isn't that of NOW ..").refused("contract(0, 0, 1, -1)").does("go(164)");
        w.due("count(0)", 167).due("contract(0, 0, 1, 0)", 0).refused("contract(0, 0, 1, -1)").does("go(1)");
        w.refused("contract(0, 0, 1, 0)").due("contract(0, 0, 1, 1)", 1).refused("contract(0, 0, 1, ", FAR, ")");
        w.does("go(167)").refused("contract(0, 0, 1, 0)").due("contract(0, 0, 1, 1)", 2).does("go(1)");
        w.refused("contract(0, 0, 1, 1)").due("contract(0, 0, 1, 2)", 3).due("count(10)", 60);
    }

    private static void contractWeek29() {
        Works w = works("14: NONE if the WEEK isn't .. 29").refused("contract(0, 0, 1, 30)");
        w.refused("contract(0, 0, 1, 31)");
        w.due("contract(0, 0, 1, 29)", 0).due("told(0, 3)", 29);
        goes(w, 4868).due("count(0)", 4871).refused("contract(0, 0, 1, 27)").due("contract(0, 0, 1, 28)", 1);
        w.does("go(1)");
        w.refused("contract(0, 0, 1, 28)").due("contract(0, 0, 1, 29)", 2).refused("contract(0, 0, 1, 30)");
        w.does("go(400)");
        w.due("count(0)", 5000).due("contract(0, 0, 1, 29)", 3).refused("contract(0, 0, 1, 28)");
        w.refused("contract(0, 0, 1, 30)");
    }

    private static void contractTwenty() {
        Works w = works("14: NONE if 20 came");
        for (int i = 0; i < 20; i++) {
            w.refused(i % 2 == 0 ? "contract(0, 0, 0, 5)" : "contract(0, 0, 1, 30)");
            w.due("contract(" + i % 6 + ", " + i % 2 + ", " + (i + 1) + ", " + (29 - i) + ")", i);
        }
        w.refused("contract(0, 0, 1, 5)").refused("contract(5, 1, 500, 29)").due("told(19, 2)", 20);
        w.refused("told(20, 2)");
    }

    private static void contractTwentyThatCame() {
        Works w = works("14: 20 that came, not 20 that aren't over");
        for (int i = 0; i < 20; i++) {
            w.does("contract(0, 0, 1, 0)");
        }
        w.does("go(168)").due("told(19, 5)", 1).refused("contract(0, 0, 1, 1)").due("count(10)", 400);
    }

    private static void soldCountsForCustomerAndKind() {
        Works w = stocked("SOLD cases count for the CONTRACTS of that CUSTOMER and KIND");
        w.does("contract(1, 0, 5, 0)", "contract(2, 0, 5, 0)", "contract(1, 1, 5, 0)", "sell(1, 0, 3)");
        w.due("told(0, 4)", 3).due("told(1, 4)", 0).due("told(2, 4)", 0).does("sell(0, 0, 4)").due("told(0, 4)", 3);
        w.does("sell(1, 1, 5)").due("told(2, 4)", 5).due("told(0, 4)", 3).does("sell(2, 0, 1)").due("told(1, 4)", 1);
    }

    private static void soldCountsByWeeks() {
        Works w = stocked("SOLD cases count by WEEKS").does("contract(1, 0, 4, 2)", "contract(1, 0, 4, 0)");
        w.does("contract(1, 0, 4, 1)", "sell(1, 0, 3)");
        had(w, 0, 3, 0);
        w.does("sell(1, 0, 2)");
        had(w, 0, 4, 1);
        w.does("sell(1, 0, 3)");
        had(w, 0, 4, 4);
        w.does("sell(1, 0, 1)");
        had(w, 1, 4, 4);
    }

    private static void had(Works w, int... cases) {
        for (int contract = 0; contract < cases.length; contract++) {
            w.due("told(" + contract + ", 4)", cases[contract]);
        }
    }

    private static void soldCountsByNumbers() {
        Works w = stocked("SOLD cases count for like ones by numbers");
        w.does("contract(1, 0, 2, 1)", "contract(1, 0, 3, 0)");
        w.does("contract(1, 0, 4, 0)", "contract(1, 0, 5, 1)", "sell(1, 0, 4)");
        had(w, 0, 3, 1, 0);
        w.does("sell(1, 0, 3)");
        had(w, 0, 3, 4, 0);
        w.does("sell(1, 0, 5)");
        had(w, 2, 3, 4, 3);
    }

    private static void soldCountsForThoseThatLack() {
        Works w = stocked("SOLD cases count for those that lack some yet");
        w.does("contract(1, 0, 2, 0)", "sell(1, 0, 1)");
        had(w, 1);
        w.does("sell(1, 0, 1)", "contract(1, 0, 3, 0)", "sell(1, 0, 1)");
        had(w, 2, 1);
        w.does("sell(1, 0, 17)");
        had(w, 2, 3);
        w.due("lacks(0)", 0).due("lacks(1)", 0).due("told(0, 5)", 0).does("go(168)").due("count(10)", 0);
    }

    private static void soldCountsForThoseThatAreNotOver() {
        Works w = stocked("SOLD cases count for those that aren't over");
        w.does("contract(1, 0, 5, 0)", "contract(1, 0, 5, 1)");
        w.does("go(162)").due("count(0)", 167).does("sell(1, 0, 1)");
        had(w, 1, 0);
        w.does("go(1)", "sell(1, 0, 2)");
        had(w, 1, 2);
        w.due("count(10)", 4 * 20).does("go(168)", "sell(1, 0, 2)");
        had(w, 1, 2);
        w.due("count(10)", 7 * 20);
    }

    private static void soldBeforeTheContract() {
        Works w = stocked("SOLD cases don't count for a later CONTRACT").does("sell(1, 0, 5)", "contract(1, 0, 5, 0)");
        had(w, 0);
        w.does("sell(1, 0, 15)");
        had(w, 5);
    }

    private static void lacksNoneSuch() {
        Works w = stocked("15: NONE if there is none such").refused("lacks(0)").does("contract(0, 0, 25, 3)");
        w.refused("lacks(-1)").refused("lacks(1)").refused("lacks(20)").refused("lacks(", FAR, ")").due("lacks(0)", 5);
    }

    private static void lacksOver() {
        Works w = stocked("15: NONE if it is over").does("contract(0, 0, 25, 0)", "contract(0, 0, 25, 1)", "go(162)");
        w.due("lacks(0)", 5).due("lacks(1)", 25).does("go(1)").refused("lacks(0)").due("lacks(1)", 5).does("go(168)");
        w.refused("lacks(1)");
    }

    private static void lacksOfThoseThatAreThere() {
        Works w = works("SHORT: from cases of their KIND that are there").does("contract(0, 0, 5, 0)");
        w.due("lacks(0)", 5);
        w.does("pack(0, 0, 4)").due("lacks(0)", 5).does("go(1)").due("lacks(0)", 1).does("pack(0, 0, 1)", "go(1)");
        w.due("lacks(0)", 0).does("pack(0, 0, 1)", "go(1)").due("lacks(0)", 0).does("sell(1, 0, 2)").due("lacks(0)", 1);
        w.does("sell(0, 0, 1)").due("lacks(0)", 1).does("sell(0, 0, 3)").due("lacks(0)", 1).due("told(0, 4)", 4);
    }

    private static void lacksByWeeks() {
        Works w = stocked("SHORT: served by WEEKS");
        w.does("contract(0, 0, 9, 2)", "contract(1, 0, 9, 0)", "contract(2, 0, 9, 1)");
        w.due("lacks(1)", 0).due("lacks(2)", 0).due("lacks(0)", 7).does("sell(5, 0, 5)").due("lacks(1)", 0);
        w.due("lacks(2)", 3).due("lacks(0)", 9).does("sell(5, 0, 10)").due("lacks(1)", 4).due("lacks(2)", 9);
    }

    private static void lacksByNumbers() {
        Works w = stocked("SHORT: of like ones by numbers").does("contract(5, 0, 12, 1)", "contract(0, 0, 12, 1)");
        w.does("contract(3, 0, 4, 0)").due("lacks(2)", 0).due("lacks(0)", 0).due("lacks(1)", 8).does("sell(0, 0, 10)");
        w.due("lacks(0)", 6).due("lacks(1)", 2).due("lacks(2)", 0);
    }

    private static void lacksWhatOthersLack() {
        Works w = stocked("SHORT: others are served with what they lack yet").does("contract(0, 0, 9, 0)");
        w.does("contract(1, 0, 14, 1)").due("lacks(1)", 3).does("sell(0, 0, 5)").due("lacks(0)", 0).due("lacks(1)", 3);
        w.does("sell(0, 0, 4)").due("lacks(1)", 3).does("sell(0, 0, 1)").due("lacks(1)", 4).due("lacks(0)", 0);
    }

    private static void lacksNotBarred() {
        Works w = stocked("SHORT: cases that are there (not BARRED)").does("contract(0, 0, 9, 0)").due("lacks(0)", 0);
        w.does("recall(0)").due("lacks(0)", 9).does("land(0, 5, 0)", "pack(0, 0, 5)", "go(1)").due("lacks(0)", 4);
        w.does("recall(1)").due("lacks(0)", 4).does("recall(2)").due("lacks(0)", 9);
    }

    private static void lacksOthersOfTheKind() {
        Works w = stocked("SHORT: of their KIND");
        w.does("contract(0, 1, 8, 0)", "contract(0, 0, 20, 0)", "contract(1, 1, 3, 0)");
        w.due("lacks(0)", 0).due("lacks(1)", 0).due("lacks(2)", 1).does("go(163)").does("contract(2, 1, 10, 5)");
        w.due("lacks(3)", 0);
    }

    private static void weekEnds() {
        Works w = works("then a WEEK ends, if NOW is of another one");
        w.does("contract(0, 0, 1, 0)", "contract(0, 0, 1, 1)");
        w.does("go(164)").due("count(0)", 167).due("told(0, 5)", 0).due("count(10)", 0).does("go(1)");
        w.due("told(0, 5)", 1);
        w.due("told(1, 5)", 0).due("count(10)", 20).does("go(167)").due("told(1, 5)", 0).due("count(10)", 20);
        w.does("go(1)").due("told(1, 5)", 1).due("count(10)", 40);
    }

    private static void weekEndsOnce() {
        Works w = works("all of that WEEK are over").does("contract(0, 0, 1, 0)", "contract(1, 1, 2, 0)", "go(165)");
        w.due("count(10)", 20 + 100).due("told(0, 5)", 1).due("told(1, 5)", 1).does("go(0)").due("count(10)", 120);
        goes(w, 4000).due("count(10)", 120).due("told(0, 4)", 0);
    }

    private static void weekFine() {
        Works w = stocked("what CONTRACTS of it lack is a FINE: twice the PRICE each").does("kind(3, 1011, 99)");
        w.does("contract(0, 0, 9, 0)", "contract(0, 1, 3, 0)", "contract(4, 3, 500, 0)", "contract(4, 3, 500, 1)");
        w.does("sell(0, 0, 8)", "sell(0, 1, 1)", "go(163)").due("count(10)", 20 + 2 * 50 + 500 * 198);
        w.due("count(9)", 105);
        w.due("batch(0, 1)", 12).due("told(0, 4)", 8);
        Works aged = stocked("a FINE of the PRICE, not of what a case is worth").does("contract(0, 0, 1, 5)");
        goes(aged, 6 * 168).due("batch(0, 5)", 11).due("count(10)", 20);
    }

    private static void weekFineOfNothing() {
        Works w = stocked("no FINE where nothing lacks").does("contract(0, 0, 9, 0)", "contract(0, 0, 1, 0)");
        w.does("sell(0, 0, 10)", "go(163)").due("count(10)", 0).due("told(0, 5)", 1).due("told(1, 5)", 1);
    }

    private static void weeksInOneGo() {
        Works w = works("WEEKS that end in one go");
        w.does("contract(0, 0, 1, 2)", "contract(0, 0, 2, 1)", "contract(0, 0, 4, 0)");
        w.due("go(400)", 403).due("count(10)", 6 * 20).due("told(0, 5)", 0).due("told(1, 5)", 1).due("told(2, 5)", 1);
        w.due("go(400)", 803).due("count(10)", 7 * 20).due("told(0, 5)", 1);
    }

    private static void week29NeverEnds() {
        Works w = works("HOURS are 0 .. 5000: the WEEK 29 doesn't end");
        w.does("contract(0, 0, 1, 29)", "contract(0, 0, 2, 28)");
        goes(w, 4868).due("count(0)", 4871).due("count(10)", 0).does("go(1)").due("count(10)", 40).does("go(400)");
        w.due("go(400)", 5000).due("told(0, 5)", 0).due("told(1, 5)", 1).due("count(10)", 40).due("lacks(0)", 1);
    }

    private static void recallNoneSuch() {
        Works w = new Works("16: NONE if there is no such LOT").refused("recall(0)");
        w.does("land(0, 10, 0)", "land(0, 10, 0)");
        w.refused("recall(-1)").refused("recall(2)").refused("recall(60)").refused("recall(", FAR, ")");
        w.due("recall(1)", 0).due("lot(1, 4)", 1).due("lot(0, 4)", 0).due("recall(0)", 0);
    }

    private static void recallAlready() {
        Works w = stocked("16: NONE if it is so already").does("sell(3, 0, 1)").due("recall(0)", 8);
        w.refused("recall(0)");
        w.does("go(40)").refused("recall(0)").due("recall(1)", 0).refused("recall(1)");
    }

    private static void recallOfNothingSold() {
        Works w = stocked("16: CUSTOMERS (bits), none").does("land(0, 5, 0)").due("recall(2)", 0).due("batch(0, 3)", 0);
        w.due("recall(0)", 0).due("batch(0, 3)", 1).due("batch(1, 3)", 0).does("sell(0, 1, 1)").due("recall(1)", 1);
    }

    private static void recallNotPacked() {
        Works w = works("RECALLED is a LOT: it isn't packed any more");
        w.does("land(0, 6, 1)", "recall(0)", "pack(0, 0, 5)");
        w.refused("pack(1, 0, 2)").due("pack(1, 0, 1)", 1).does("recall(2)").due("count(2)", 200).does("go(20)");
        w.due("count(2)", 0).due("count(5)", 200);
    }

    private static void recallBars() {
        Works w = works("BATCHES with fish of it are BARRED (not sold any more)");
        w.does("land(0, 11, 1)", "pack(0, 0, 10)");
        w.does("pack(1, 0, 10)", "pack(2, 1, 5)", "go(2)").due("of(1, 2)", 1).does("recall(2)").due("batch(0, 3)", 1);
        w.due("batch(1, 3)", 1).due("batch(2, 3)", 0).refused("sell(0, 0, 1)").due("batch(0, 1)", 10);
        w.due("batch(0, 5)", 10);
        w.due("sell(0, 1, 5)", 125);
    }

    private static void recallDoneLater() {
        Works w = works("also those that are DONE later").does("land(0, 6, 1)", "kind(2, 1015, 9)", "pack(0, 2, 6)");
        w.does("pack(1, 2, 6)", "go(4)").due("recall(2)", 0).due("cooker(0, 1)", 6).does("go(1)").due("batch(0, 3)", 1);
        w.due("batch(1, 3)", 0).due("batch(0, 1)", 6).refused("sell(0, 2, 7)").due("sell(0, 2, 6)", 54);
        w.due("batch(0, 1)", 6);
    }

    private static void recallDoneLaterOfOneKilogram() {
        Works w = works("also those that are DONE later, with one kilogram of it");
        w.does("land(0, 5, 19)", "pack(0, 0, 6)");
        w.does("recall(0)", "go(1)").due("of(0, 0)", 1).due("of(0, 2)", 5).due("batch(0, 3)", 1);
        w.refused("sell(0, 0, 1)");
        Works last = works("also those that are DONE later, of the last LOT");
        for (int lot = 2; lot < 60; lot++) {
            last.does("land(0, 1, 19)");
        }
        last.does("pack(2, 0, 50)", "pack(0, 0, 8)", "recall(59)", "go(1)").due("of(0, 59)", 1).due("batch(0, 3)", 1);
        last.due("batch(1, 3)", 0).due("sell(0, 0, 50)", 500);
    }

    private static void recallFailed() {
        Works w = works("a CHARGE that FAILED bars nothing").does("land(0, 6, 1)", "pack(0, 0, 6)", "recall(2)");
        w.due("fail(0)", 6).due("pack(0, 0, 6)", 6).does("go(1)").due("batch(0, 3)", 0).due("of(0, 2)", 0);
        w.due("sell(0, 0, 6)", 60);
    }

    private static void recallTellsCustomers() {
        Works w = stocked("CUSTOMERS that bought of such BATCHES are told (bits)");
        for (int customer = 0; customer < 6; customer++) {
            w.does("sell(" + customer + ", 0, 1)", "sell(" + customer + ", 0, 1)");
        }
        w.due("recall(1)", 0).due("recall(0)", 63);
        for (int customer = 0; customer < 6; customer++) {
            Works one = stocked("CUSTOMERS (bits)").does("sell(" + customer + ", 1, 2)");
            one.due("recall(0)", 0).due("recall(1)", 1 << customer);
        }
    }

    private static void recallTellsOfSuchBatches() {
        Works w = works("CUSTOMERS that bought of such BATCHES, of no others").does("land(0, 11, 1)", "pack(0, 0, 10)");
        w.does("pack(1, 0, 10)", "go(1)", "sell(1, 0, 10)", "sell(2, 0, 1)", "sell(3, 0, 9)").due("recall(0)", 4 + 8);
        w.due("batch(0, 3)", 0).due("batch(1, 3)", 1).due("recall(2)", 2 + 4 + 8);
        Works turn = works("CUSTOMERS that bought of two BATCHES at once").does("land(0, 10, 1)", "pack(0, 0, 10)");
        turn.does("pack(1, 0, 10)", "go(1)", "sell(1, 0, 9)", "sell(2, 0, 2)", "sell(3, 0, 1)");
        turn.due("recall(2)", 2 + 4).due("recall(0)", 4 + 8);
    }

    private static void recallTwoLots() {
        Works w = works("a BATCH with fish of two LOTS");
        w.does("land(0, 3, 1)", "pack(0, 0, 6)", "go(1)", "sell(4, 0, 2)");
        w.due("recall(2)", 16).due("batch(0, 3)", 1).due("recall(0)", 16).due("batch(0, 3)", 1).due("batch(0, 1)", 4);
    }

    private static void recallKeepsContracts() {
        Works w = stocked("RECALLED: what was SOLD is SOLD").does("contract(0, 0, 9, 0)", "sell(0, 0, 6)", "recall(0)");
        w.due("told(0, 4)", 6).due("count(9)", 60).due("lacks(0)", 3).does("go(163)").due("count(10)", 60);
    }

    private static void toldNoneSuch() {
        Works w = works("21: NONE if there is none such").refused("told(0, 0)").does("contract(3, 0, 8, 2)");
        for (int what = 0; what < 6; what++) {
            w.refused("told(-1, " + what + ")").refused("told(1, " + what + ")");
            w.refused("told(", FAR, ", " + what + ")");
        }
        w.due("told(0, 0)", 3);
    }

    private static void toldOthers() {
        Works w = stocked("21: 0 .. 5; NONE for others").does("contract(3, 1, 8, 2)", "sell(3, 1, 7)");
        int[] want = {3, 1, 8, 2, 7, 0};
        for (int what = 0; what < 6; what++) {
            w.due("told(0, " + what + ")", want[what]);
        }
        w.refused("told(0, -1)").refused("told(0, 6)").refused("told(0, ", FAR, ")").does("go(400)", "go(99)");
        want[5] = 1;
        for (int what = 0; what < 6; what++) {
            w.due("told(0, " + what + ")", want[what]);
        }
    }

    private static void toldOfTwenty() {
        Works w = works("21: the last of 20 CONTRACTS");
        for (int i = 0; i < 20; i++) {
            w.does("contract(" + i % 6 + ", 0, " + (i + 1) + ", " + i + ")");
        }
        w.due("told(19, 2)", 20).due("told(19, 3)", 19).due("lacks(19)", 20).refused("told(20, 2)");
        w.refused("lacks(20)");
    }
}
