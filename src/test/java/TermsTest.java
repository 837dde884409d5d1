/** The document's part "Terms", section by section: a test of its own for each sentence that names a boundary. */
public final class TermsTest {
    private static final Due due = new Due();

    public static void main(String[] args) {
        timeHas24StepsAtFirst();
        stepsAreNumberedFrom0();
        keptCountsAs0AsLongAsDark();
        keptMayBeAllOfTheRate();
        keptOfTheGreatestRates();
        keptLeavesNoRoom();
        aPriceIs0IfThereIsNoPlace();
        aRowOfNoPlaces();
        aRowOf36Places();
        floorAndTopOfEverySize();
        warmHasHalfOfEveryLoss();
        quickHasEveryRateTwice();
        aPlanIs0AsTOrTheStoreIsNew();
        ruleTwoAtBothRates();
        rulesThreeAndFour();
        ruleFive();
        whyIsTheFirstStepAndRule();
        moneyOfEveryLossAndNumber();
        moneyAtNegativePrices();
        moneyOfTheGreatestNumbers();
        theBestPlanIsTheLesserAtTheFirstDifference();
        valueAtTheEnd();
        valueOfAChargeBeyond();
        manyAtItsGreatest();
        takenAtTheLimit();
        takenAtTheGreatestLimits();
        wantedOfAllBids();
        filledUpToRatesFloorAndTop();
        filledByNothingKeptAndNoEnd();
        countsCutTowardsBelow();
        countsOfTheNearest();
        theBookHas150Rows();
        theWarrantyIsVoidAbove();
        theBookIsRightFrom0ToSize();
        moneyOfTheBookBeyondAnInt();
        due.end();
    }

    private static HourStore of(int steps, int kind, int size, int rates, int lossWear) {
        HourStore x = new HourStore();
        x.time(steps);
        due.is("a STORE", x.store(0, kind, size, rates, lossWear), 0);
        return x;
    }

    private static void plan(HourStore x, int... numbers) {
        for (int t = 0; t < numbers.length; t++) {
            due.isTrue("put " + numbers[t], x.put(0, t, numbers[t]) > Due.NONE);
        }
    }

    private static void why(String what, HourStore x, long want, int... numbers) {
        plan(x, numbers);
        due.is(what, x.why(0), want);
    }

    // ---- 1

    private static void timeHas24StepsAtFirst() {
        HourStore x = new HourStore();
        x.store(0, 0, 1, Due.rates(1, 1), 0);
        due.is("1 STEP 23", x.put(0, 23, 1), 0);
        due.is("1 STEP 24", x.put(0, 24, 1), Due.INDEX);
        due.is("1 a BID of all STEPS", x.bid(0, 23, 1, 0), 0);
        due.is("1 a BID up to STEP 24", x.bid(0, 24, 1, 0), Due.BAD);
        due.is("1 value at 24", x.value(0, 1, 24, 0), 0);
        due.is("1 value at 25", x.value(0, 1, 25, 0), Due.BAD);
    }

    private static void stepsAreNumberedFrom0() {
        for (int n : new int[] {1, 36}) {
            HourStore x = of(n, 0, 60, Due.rates(1, 1), 0);
            due.is("1 STEP 0 of " + n, x.put(0, 0, 1), 0);
            due.is("1 the last STEP of " + n, x.planned(0, n - 1), n == 1 ? 1 : 0);
            due.is("1 behind the last STEP of " + n, x.behind(0, n - 1), 1);
            due.is("1 STEP " + n, x.planned(0, n), Due.INDEX);
            due.is("1 WANTED at the last STEP of " + n, x.wanted(0, n - 1), 0);
            due.is("1 WANTED at STEP " + n, x.wanted(0, n), Due.INDEX);
            due.is("1 as many rows, " + n, x.live(0, 0), n);
        }
    }

    private static void keptCountsAs0AsLongAsDark() {
        HourStore x = of(1, 0, 5, Due.rates(1, 1), 0);
        x.keep(0, 10);
        due.is("1 KEPT 10 of SIZE 5", x.why(0), 3);
        due.is("1 none is ALLOWED", x.best(0, 1), Due.NONE);
        x.dark(0, 1);
        due.is("1 DARK: it counts as 0", x.why(0), Due.NONE);
        due.is("1 DARK: ALLOWED", x.best(0, 1), 0);
        due.is("1 DARK: one PLAN", x.many(0, 1), 1);
        x.dark(0, 0);
        due.is("1 no more DARK: it counts again", x.why(0), 3);
        due.is("1 no more DARK: none is ALLOWED", x.many(0, 1), 0);
    }

    private static void keptMayBeAllOfTheRate() {
        HourStore x = of(1, 0, 40, Due.rates(10, 10), 0);
        x.charge(0, 20);
        x.keep(0, 10);
        due.is("1 0 alone is left", x.many(0, 1), 1);
        why("2 0", x, Due.NONE, 0);
        why("2 1", x, 2, 1);
        why("2 -1", x, 2, -1);
        x.keep(0, 9);
        due.is("1 -1, 0, 1 are left", x.many(0, 1), 3);
        why("2 1", x, Due.NONE, 1);
        why("2 -1", x, Due.NONE, -1);
        why("2 2", x, 2, 2);
        why("2 -2", x, 2, -2);
    }

    private static void keptOfTheGreatestRates() {
        HourStore x = of(1, 1, 60, Due.rates(20, 20), 0);
        x.charge(0, 50);
        x.keep(0, 10);
        due.is("2 down by 40 less 10, up by 0: THE TOP less 10", x.many(0, 1), 31);
        why("2 -30", x, Due.NONE, -30);
        why("2 -31", x, 2, -31);
        x.charge(0, 10);
        due.is("2 up by 40 less 10, down by 0: THE FLOOR and 10", x.many(0, 1), 31);
        why("2 30", x, Due.NONE, 30);
        why("2 31", x, 2, 31);
        x.keep(0, 0);
        due.is("2 up by 40, down by 10", x.many(0, 1), 51);
        due.is("2 from 60 down by 40", x.value(0, 1, 0, 60), 0);
    }

    private static void keptLeavesNoRoom() {
        HourStore x = of(1, 0, 20, Due.rates(20, 20), 0);
        x.keep(0, 10);
        x.charge(0, 10);
        due.is("2 FLOOR and R is TOP less R: 10 alone", x.why(0), Due.NONE);
        due.is("2 one PLAN", x.many(0, 1), 1);
        x = of(1, 0, 19, Due.rates(20, 20), 0);
        x.keep(0, 10);
        x.charge(0, 10);
        due.is("2 FLOOR and R is above TOP less R", x.why(0), 4);
        due.is("2 no PLAN", x.many(0, 1), 0);
        x.charge(0, 9);
        due.is("2 FLOOR and R is above TOP less R", x.why(0), 3);
        for (int c = 0; c <= 19; c++) {
            due.is("3 nothing is ALLOWED from " + c, x.value(0, 1, 0, c), Due.NONE);
        }
    }

    private static void aPriceIs0IfThereIsNoPlace() {
        HourStore x = of(3, 0, 10, Due.rates(3, 3), 0);
        Due.prices(x, 0, 7, 7);
        plan(x, 1, 1, 1);
        due.is("1 STEP 2 has no place", x.money(0, 0), -14);
        due.is("1 the last place", x.told(0, 1), 7);
        due.is("1 behind it", x.told(0, 2), 0);
        x.bid(1, 2, 1, 3);
        due.is("1 7 and 0 are above 3 times 2", x.taken(0, 0), 0);
        due.is("1 a MISSING row", x.money(0, 1), 0);
    }

    private static void aRowOfNoPlaces() {
        for (int width = 0; width < 3; width++) {
            HourStore x = new HourStore();
            due.is("1 no places", x.world(0, width, 0), 0);
            due.is("1 it is there", x.count(4), 1);
            due.is("1 its prices", x.told(0, 0), 0);
            due.is("1 place 0", x.price(0, 0, 0), Due.INDEX);
            due.is("1 none of none", x.copy(0, 0, 0, 0, 0), 0);
            due.is("1 one of none", x.copy(0, 0, 0, 0, 1), Due.INDEX);
            due.is("1 none from 1 on", x.copy(0, 1, 0, 0, 0), Due.INDEX);
            due.is("1 none to 1", x.copy(0, 0, 0, 1, 0), Due.INDEX);
            due.is("1 it had none", x.lose(0), 0);
            due.is("1 it is MISSING", x.lose(0), Due.NOTHING);
        }
    }

    private static void aRowOf36Places() {
        HourStore x = new HourStore();
        for (int w = 0; w < 2; w++) {
            x.world(w, 0, 36);
        }
        for (int p = 0; p < 36; p++) {
            due.is("1 place " + p, x.price(0, p, p + 1), 0);
        }
        due.is("1 all of them", x.copy(0, 0, 1, 0, 36), 36);
        for (int p = 0; p < 36; p++) {
            due.is("1 told " + p, x.told(1, p), p + 1);
        }
        due.is("1 37 of them", x.copy(0, 0, 1, 0, 37), Due.INDEX);
        due.is("1 by one, all but the last", x.copy(1, 0, 1, 1, 35), 35);
        due.is("1 as they were, the first", x.told(1, 1), 1);
        due.is("1 as they were, the last", x.told(1, 35), 35);
        due.is("1 by one, one too many", x.copy(1, 0, 1, 1, 36), Due.INDEX);
        due.is("1 the last one alone", x.copy(0, 35, 1, 0, 1), 1);
        due.is("1 the last one alone", x.told(1, 0), 36);
        due.is("1 none behind the last", x.copy(0, 36, 1, 36, 0), 0);
    }

    // ---- 2

    private static void floorAndTopOfEverySize() {
        for (int size = 1; size <= 60; size++) {
            HourStore x = new HourStore();
            for (int kind = 0; kind < 5; kind++) {
                int floor = kind == 4 ? size / 10 : 0;
                int top = kind >= 3 ? 4 * size / 5 : size;
                x.store(0, kind, size, Due.rates(1, 1), 0);
                String what = "2 KIND " + kind + ", SIZE " + size;
                due.is(what + ": CHARGE", x.about(0, 2), floor);
                due.is(what + ": FLOOR", x.about(0, 7), floor);
                due.is(what + ": TOP", x.about(0, 8), top);
                due.is(what + ": above THE TOP", x.charge(0, top + 1), Due.BAD);
                due.is(what + ": below THE FLOOR", x.charge(0, floor - 1), Due.BAD);
                due.is(what + ": to THE TOP", x.charge(0, top), floor);
                due.is(what + ": to THE FLOOR", x.charge(0, floor), top);
            }
        }
    }

    private static void warmHasHalfOfEveryLoss() {
        for (int loss = 0; loss <= 50; loss++) {
            HourStore x = new HourStore();
            for (int kind = 0; kind < 5; kind++) {
                x.store(0, kind, 1, Due.rates(1, 1), Due.lossWear(loss, 100));
                due.is("2 LOSS " + loss + " of KIND " + kind, x.about(0, 5), kind == 2 ? loss / 2 : loss);
                due.is("2 WEAR of KIND " + kind, x.about(0, 6), 100);
            }
        }
    }

    private static void quickHasEveryRateTwice() {
        for (int rate = 1; rate <= 20; rate++) {
            HourStore x = new HourStore();
            for (int kind = 0; kind < 5; kind++) {
                int times = kind == 1 || kind == 2 ? 2 : 1;
                x.store(0, kind, 1, Due.rates(rate, 21 - rate), 0);
                due.is("2 RATE in " + rate + " of KIND " + kind, x.about(0, 3), times * rate);
                due.is("2 RATE out " + (21 - rate) + " of KIND " + kind, x.about(0, 4), times * (21 - rate));
            }
        }
    }

    private static void aPlanIs0AsTOrTheStoreIsNew() {
        HourStore x = of(36, 0, 60, Due.rates(1, 1), 0);
        x.store(1, 0, 60, Due.rates(1, 1), 0);
        for (int t = 0; t < 36; t++) {
            x.put(0, t, t + 1);
            x.put(1, t, -t - 1);
        }
        x.store(0, 0, 60, Due.rates(1, 1), 0);
        for (int t = 0; t < 36; t++) {
            due.is("2 the STORE is new, STEP " + t, x.planned(0, t), 0);
            due.is("2 the other one stays, STEP " + t, x.planned(1, t), -t - 1);
        }
        x.time(1);
        x.time(36);
        for (int t = 0; t < 36; t++) {
            due.is("2 T is new, STEP " + t, x.planned(1, t), 0);
        }
    }

    private static void ruleTwoAtBothRates() {
        HourStore x = of(1, 0, 60, Due.rates(7, 9), 0);
        x.charge(0, 30);
        why("2 the RATE in", x, Due.NONE, 7);
        why("2 above the RATE in", x, 2, 8);
        why("2 the RATE out", x, Due.NONE, -9);
        why("2 below the RATE out", x, 2, -10);
        x.keep(0, 3);
        why("2 the RATE in less 3", x, Due.NONE, 4);
        why("2 above the RATE in less 3", x, 2, 5);
        why("2 3 less the RATE out", x, Due.NONE, -6);
        why("2 below 3 less the RATE out", x, 2, -7);
        due.is("2 as many PLANS", x.many(0, 1), 11);
    }

    private static void rulesThreeAndFour() {
        HourStore x = of(1, 4, 50, Due.rates(20, 20), 0);
        x.charge(0, 20);
        why("2 THE FLOOR", x, Due.NONE, -15);
        why("2 below THE FLOOR", x, 3, -16);
        why("2 THE TOP", x, Due.NONE, 20);
        x.charge(0, 21);
        why("2 above THE TOP", x, 4, 20);
        x.charge(0, 20);
        x.keep(0, 4);
        why("2 THE FLOOR and 4", x, Due.NONE, -11);
        why("2 below THE FLOOR and 4", x, 3, -12);
        why("2 THE TOP less 4", x, Due.NONE, 16);
        x.charge(0, 21);
        why("2 above THE TOP less 4", x, 4, 16);
    }

    private static void ruleFive() {
        HourStore x = of(2, 3, 50, Due.rates(20, 20), 0);
        x.charge(0, 20);
        x.end(0, 40);
        why("2 at END, THE TOP", x, Due.NONE, 0, 20);
        why("2 below END", x, 15, 0, 19);
        why("2 below END ahead of the last STEP alone", x, Due.NONE, 20, 0);
        due.is("3 as many PLANS end at THE TOP", x.many(0, 1), 21);
        x.end(0, 41);
        why("2 END is above THE TOP", x, 15, 20, 0);
        due.is("3 none is ALLOWED", x.many(0, 1), 0);
        due.is("3 none is ALLOWED", x.best(0, 1), Due.NONE);
        due.is("3 the PLAN stays", x.planned(0, 0), 20);
        x.end(0, 60);
        due.is("3 at T with SIZE", x.value(0, 1, 2, 50), Due.NONE);
    }

    private static void whyIsTheFirstStepAndRule() {
        HourStore x = of(3, 0, 10, Due.rates(4, 4), 0);
        x.end(0, 10);
        x.dark(2, 1);
        why("2 of STEP 0 rule 2, ahead of 4", x, 2, 11, 0, 1);
        why("2 of STEP 0 rule 2, ahead of 3", x, 2, -5, 0, 1);
        why("2 of STEP 0 rule 3", x, 3, -4, 20, 1);
        why("2 of STEP 1 rule 2", x, 12, 4, 20, 1);
        why("2 of STEP 2 rule 1, ahead of 2, 4", x, 21, 4, 4, 100);
        why("2 of STEP 2 rule 1, ahead of 2, 3, 5", x, 21, 4, 4, -100);
        why("2 of STEP 2 rule 5", x, 25, 4, 4, 0);
        x.dark(2, 0);
        why("2 of STEP 2 rule 4", x, 24, 4, 4, 3);
        why("2 of STEP 2 rule 2, ahead of 5", x, 22, 4, 4, -5);
        why("2 of STEP 2 rule 3, ahead of 5", x, 23, 1, 1, -3);
        why("2 ALLOWED", x, Due.NONE, 4, 4, 2);
        x = of(36, 0, 1, Due.rates(1, 1), 0);
        x.end(0, 2);
        due.is("2 of STEP 35 rule 5", x.why(0), 355);
    }

    /** - p * (d + (d * LOSS + 99) / 100), (p - WEAR) * - d. */
    private static void moneyOfEveryLossAndNumber() {
        for (int loss : new int[] {0, 1, 2, 3, 25, 33, 49, 50}) {
            HourStore x = of(1, 0, 60, Due.rates(20, 20), Due.lossWear(loss, 13));
            Due.prices(x, 0, 7);
            for (int d = -100; d <= 100; d++) {
                x.put(0, 0, d);
                long lost = d * loss % 100 == 0 ? d * loss / 100 : d * loss / 100 + 1;
                long money = d > 0 ? -7 * (d + lost) : (7 - 13) * -d;
                due.is("2 MONEY of " + d + ", LOSS " + loss, x.money(0, 0), money);
            }
        }
    }

    private static void moneyAtNegativePrices() {
        HourStore x = of(1, 0, 60, Due.rates(20, 20), Due.lossWear(1, 100));
        Due.prices(x, 0, -3);
        plan(x, 1);
        due.is("2 any LOSS is 1 at least", x.money(0, 0), 6);
        plan(x, 100);
        due.is("2 100 lose just 1", x.money(0, 0), 303);
        plan(x, -2);
        due.is("2 sold at less than nothing", x.money(0, 0), -206);
        plan(x, 0);
        due.is("2 0 is without MONEY", x.money(0, 0), 0);
        Due.prices(x, 0, 100);
        plan(x, -2);
        due.is("2 the price is the WEAR", x.money(0, 0), 0);
    }

    private static void moneyOfTheGreatestNumbers() {
        HourStore x = of(36, 0, 60, Due.rates(20, 20), Due.lossWear(50, 100));
        x.world(0, 2, 36);
        x.world(1, 2, 36);
        for (int t = 0; t < 36; t++) {
            x.price(0, t, 10000);
            x.price(1, t, -10000);
            x.put(0, t, 100);
        }
        due.is("2 36 times 150 at 10000", x.money(0, 0), -54000000L);
        due.is("2 36 times 150 at -10000", x.money(0, 1), 54000000L);
        due.is("2 the worst of them", x.worst(0, 15), -54000000L);
        for (int t = 0; t < 36; t++) {
            x.put(0, t, -100);
        }
        due.is("2 36 times -100 at 10000", x.money(0, 0), 36 * 990000L);
        due.is("2 36 times -100 at -10000", x.money(0, 1), -36 * 1010000L);
        due.is("2 the worst of them", x.worst(0, 15), -36 * 1010000L);
    }

    // ---- 3

    private static void theBestPlanIsTheLesserAtTheFirstDifference() {
        HourStore x = of(3, 0, 10, Due.rates(2, 2), 0);
        x.charge(0, 2);
        x.end(0, 2);
        due.is("3 all bring 0", x.best(0, 8), 0);
        int[] due0 = {-2, 0, 2};
        for (int t = 0; t < 3; t++) {
            due.is("3 STEP " + t, x.planned(0, t), due0[t]);
        }
        Due.prices(x, 0, 0, 5, 5);
        x.end(0, 0);
        due.is("3 4 sold, 2 bought for nothing", x.best(0, 1), 20);
        int[] due1 = {2, -2, -2};
        for (int t = 0; t < 3; t++) {
            due.is("3 the greatest MONEY, STEP " + t, x.planned(0, t), due1[t]);
        }
    }

    private static void valueAtTheEnd() {
        HourStore x = of(2, 0, 60, Due.rates(1, 1), Due.lossWear(0, 1));
        x.end(0, 60);
        due.is("3 at T, c is END", x.value(0, 1, 2, 60), 0);
        due.is("3 at T, c is below END", x.value(0, 1, 2, 59), Due.NONE);
        due.is("3 ahead of it, one more can come", x.value(0, 1, 1, 59), 0);
        due.is("3 ahead of it, two can not", x.value(0, 1, 1, 58), Due.NONE);
        due.is("3 from 0 on, two can", x.value(0, 1, 0, 58), 0);
        due.is("3 from 0 on, three can not", x.value(0, 1, 0, 57), Due.NONE);
        x.end(0, 0);
        due.is("3 at T, 0 is not below 0", x.value(0, 1, 2, 0), 0);
    }

    private static void valueOfAChargeBeyond() {
        HourStore x = of(2, 4, 60, Due.rates(6, 12), Due.lossWear(0, 2));
        Due.prices(x, 0, 10, 1);
        due.is("3 from 0 just to THE FLOOR", x.value(0, 1, 0, 0), -60);
        due.is("3 from 60 just to THE TOP", x.value(0, 1, 0, 60), 96);
        due.is("3 from 60 at the last STEP", x.value(0, 1, 1, 60), -12);
        x.keep(0, 1);
        due.is("3 from 0 not to THE FLOOR and 1", x.value(0, 1, 0, 0), Due.NONE);
        due.is("3 from 1 not to THE FLOOR and 1: by 5 at most", x.value(0, 1, 0, 1), Due.NONE);
        due.is("3 from 2 just to THE FLOOR and 1", x.value(0, 1, 0, 2), -50);
        due.is("3 from 58 just to THE TOP less 1", x.value(0, 1, 0, 58), 88);
        due.is("3 from 59 not to THE TOP less 1", x.value(0, 1, 0, 59), Due.NONE);
        x.dark(0, 1);
        due.is("3 DARK, THE FLOOR", x.value(0, 1, 0, 6), 0);
        due.is("3 DARK, below THE FLOOR", x.value(0, 1, 0, 5), Due.NONE);
        due.is("3 DARK, above THE TOP", x.value(0, 1, 0, 49), Due.NONE);
        due.is("3 at T, beyond all", x.value(0, 1, 2, 0), 0);
        due.is("3 at T, beyond all", x.value(0, 1, 2, 60), 0);
    }

    /** Where no PLAN can leave 0 .. SIZE, the choices of all STEPS are multiplied. */
    private static void manyAtItsGreatest() {
        HourStore x = of(6, 0, 60, Due.rates(4, 5), 0);
        x.charge(0, 30);
        due.is("3 10 to the 6", x.many(0, 1), 1000000);
        x.store(0, 0, 60, Due.rates(1, 1), 0);
        x.charge(0, 30);
        x.time(18);
        due.is("3 3 to the 18", x.many(0, 1), 387420489);
        x.time(19);
        due.is("3 3 to the 19 is more", x.many(0, 1), 1000000000);
        x.time(36);
        due.is("3 far more", x.many(0, 1), 1000000000);
        manyIsJustTheGreatest();
    }

    /** With RATES 1 and 3 there are -3 .. 1 if nothing is KEPT, and -1, 0 with 2 KEPT: 5 to the 9 times 2 to the 9. */
    private static void manyIsJustTheGreatest() {
        HourStore x = of(18, 0, 60, Due.rates(1, 3), 0);
        x.charge(0, 45);
        for (int t = 0; t < 18; t += 2) {
            x.keep(t, 2);
        }
        due.is("3 10 to the 9", x.many(0, 1), 1000000000);
        x.dark(0, 1);
        due.is("3 half of it", x.many(0, 1), 500000000);
        x.dark(0, 0);
        x.dark(1, 1);
        due.is("3 a fifth of it", x.many(0, 1), 200000000);
    }

    // ---- 4

    private static void takenAtTheLimit() {
        HourStore x = new HourStore();
        x.time(3);
        Due.prices(x, 0, 1, 2, 6);
        for (int limit = 2; limit <= 4; limit++) {
            x.bid(0, 2, 1, limit);
            x.bid(0, 2, -1, limit);
        }
        long[] answers = {0, 1, 1, 1, 1, 0};
        for (int i = 0; i < 6; i++) {
            due.is("4 9 against " + (2 + i / 2) + " times 3, BID " + i, x.taken(i, 0), answers[i]);
        }
        x.price(0, 2, 7);
        due.is("4 buys, 10 is above 9", x.taken(2, 0), 0);
        due.is("4 sells, 10 is not below 9", x.taken(3, 0), 1);
        x.price(0, 2, 5);
        due.is("4 buys, 8 is not above 9", x.taken(2, 0), 1);
        due.is("4 sells, 8 is below 9", x.taken(3, 0), 0);
    }

    private static void takenAtTheGreatestLimits() {
        HourStore x = new HourStore();
        x.time(36);
        x.world(0, 2, 36);
        x.world(1, 2, 36);
        for (int t = 0; t < 36; t++) {
            x.price(0, t, 10000);
            x.price(1, t, -10000);
        }
        x.bid(0, 35, -20, 10000);
        x.bid(0, 35, 20, -10000);
        x.bid(0, 35, 20, 9999);
        x.bid(0, 35, -20, -9999);
        long[][] answers = {{1, 0}, {0, 1}, {0, 1}, {1, 0}};
        for (int i = 0; i < 4; i++) {
            for (int w = 0; w < 2; w++) {
                due.is("4 BID " + i + ", WORLD " + w, x.taken(i, w), answers[i][w]);
            }
        }
        x.price(0, 35, 9999);
        due.is("4 by 1 below all of them", x.taken(0, 0), 0);
    }

    private static void wantedOfAllBids() {
        HourStore x = of(36, 1, 60, Due.rates(20, 20), 0);
        for (int i = 0; i < 12; i++) {
            due.is("4 BID " + i, x.bid(0, 35, 20, 0), i);
        }
        due.is("4 the greatest that is WANTED", x.wanted(0, 0), 240);
        due.is("4 at the last STEP", x.wanted(0, 35), 240);
        due.is("4 40 and 20 are DONE", x.fill(0, 0), 36 * 240 - 60);
        due.is("4 STEP 0", x.planned(0, 0), 40);
        due.is("4 STEP 1", x.planned(0, 1), 20);
        due.is("4 STEP 2", x.planned(0, 2), 0);
        x.time(1);
        x.charge(0, 60);
        for (int i = 0; i < 12; i++) {
            x.bid(0, 0, -20, 0);
        }
        due.is("4 the least that is WANTED", x.wanted(0, 0), -240);
        due.is("4 -40 are DONE", x.fill(0, 0), 200);
        due.is("4 STEP 0", x.planned(0, 0), -40);
    }

    private static void filled(String what, HourStore x, int amount, int done) {
        x.time(1);
        x.bid(0, 0, amount, 0);
        due.is(what + ": SHORT", x.fill(0, 0), Math.abs(amount - done));
        due.is(what + ": DONE", x.planned(0, 0), done);
    }

    private static void filledUpToRatesFloorAndTop() {
        HourStore x = of(1, 4, 50, Due.rates(6, 7), 0);
        x.charge(0, 20);
        filled("4 the RATE in", x, 6, 6);
        filled("4 above the RATE in", x, 7, 6);
        filled("4 the RATE out", x, -7, -7);
        filled("4 below the RATE out", x, -8, -7);
        x.charge(0, 37);
        filled("4 to THE TOP", x, 3, 3);
        filled("4 above THE TOP", x, 4, 3);
        x.charge(0, 40);
        filled("4 at THE TOP", x, 20, 0);
        x.charge(0, 9);
        filled("4 to THE FLOOR", x, -4, -4);
        filled("4 below THE FLOOR", x, -5, -4);
        x.charge(0, 5);
        filled("4 at THE FLOOR", x, -20, 0);
        x.charge(0, 20);
        x.dark(0, 1);
        filled("4 DARK", x, 20, 0);
    }

    private static void filledByNothingKeptAndNoEnd() {
        HourStore x = of(1, 0, 20, Due.rates(9, 9), 0);
        x.charge(0, 10);
        x.keep(0, 10);
        x.end(0, 60);
        filled("4 as if nothing were KEPT", x, 9, 9);
        filled("4 as if END were 0", x, -9, -9);
        due.is("4 the CHARGE stays", x.about(0, 2), 10);
    }

    // ---- 5

    private static void countsCutTowardsBelow() {
        int[][] pairs = {{1, 2, 1}, {-1, -2, -2}, {-1, 0, -1}, {0, 1, 0}, {-1000, 1000, 0}, {-1000, -999, -1000},
            {1000, 999, 999}, {-1000, -1000, -1000}, {1000, 1000, 1000}, {0, 0, 0}, {-3, 2, -1}};
        for (int[] p : pairs) {
            HourStore x = new HourStore();
            x.meter(0, p[0]);
            x.meter(2, p[1]);
            due.is("5 (" + p[0] + " + " + p[1] + ") / 2", x.counts(1), p[2]);
        }
    }

    private static void countsOfTheNearest() {
        for (int a = 0; a < 36; a += 7) {
            for (int b = a; b < 36; b += 7) {
                HourStore x = new HourStore();
                x.meter(a, 10);
                x.meter(b, 21);
                for (int t = 0; t < 36; t++) {
                    int want = t >= b ? 21 : a < t ? 15 : a == b ? 21 : 10;
                    due.is("5 STEP " + t + " by " + a + ", " + b, x.counts(t), want);
                }
            }
        }
    }

    // ---- 6

    private static void theBookHas150Rows() {
        HourStore x = of(36, 0, 10, Due.rates(1, 1), 0);
        for (int i = 1; i <= 4; i++) {
            due.is("6 " + 36 * i + " rows", x.live(0, 0), 36 * i);
        }
        x.time(7);
        due.is("6 151 rows", x.live(0, 0), Due.FULL);
        due.is("6 144 rows still", x.count(3), 144);
        x.time(6);
        due.is("6 150 rows", x.live(0, 0), 150);
        x.time(1);
        due.is("6 151 rows", x.live(0, 0), Due.FULL);
        due.is("6 the last row is of STEP 5", x.row(149, 2), 5);
        due.is("6 RIGHT", x.check(), Due.NONE);
        due.is("6 empty", x.shut(), 150);
        due.is("6 one row", x.live(0, 0), 1);
        due.is("6 it is of STEP 0", x.row(0, 2), 0);
    }

    private static void theWarrantyIsVoidAbove() {
        HourStore x = of(30, 0, 10, Due.rates(1, 1), 0);
        for (int i = 0; i < 5; i++) {
            x.live(0, 0);
        }
        x.warrant(0, 0);
        due.is("6 0 is not above 0", x.voided(0), Due.NONE);
        x.forge(149, 3, -1);
        due.is("6 1 is above 0, at the last row", x.voided(0), 149);
        for (int i = 0; i < 150; i++) {
            x.forge(i, 3, i % 2 == 0 ? 100 : -100);
        }
        x.warrant(0, 15000);
        due.is("6 15000 is not above 15000", x.voided(0), Due.NONE);
        x.warrant(0, 14999);
        due.is("6 15000 is above 14999", x.voided(0), 149);
        x.warrant(0, 14900);
        due.is("6 15000 is above 14900", x.voided(0), 149);
        x.warrant(0, 14899);
        due.is("6 14900 is above 14899", x.voided(0), 148);
        x.warrant(0, 0);
        due.is("6 100 is above 0", x.voided(0), 0);
        x.warrant(0, 100000);
        due.is("6 the greatest", x.voided(0), Due.NONE);
        x.shut();
        x.warrant(0, 0);
        due.is("6 an empty BOOK", x.voided(0), Due.NONE);
    }

    private static void theBookIsRightFrom0ToSize() {
        HourStore x = of(2, 0, 10, Due.rates(10, 10), 0);
        plan(x, 10, -10);
        x.live(0, 0);
        due.is("6 0, 10, 0", x.check(), Due.NONE);
        x.forge(1, 3, -11);
        due.is("6 11 ahead of row 1", x.check(), 1);
        x.forge(0, 3, 11);
        due.is("6 11 ahead of row 1, 0 ahead of row 0", x.check(), 1);
        x.forge(0, 3, 12);
        due.is("6 11 ahead of row 1, -1 ahead of row 0", x.check(), 0);
        x.forge(1, 3, 0);
        x.forge(0, 3, 0);
        due.is("6 0, 0, 0", x.check(), Due.NONE);
        x.forge(1, 3, 1);
        due.is("6 -1 ahead of rows 1 and 0", x.check(), 0);
        x.forge(0, 3, -1);
        due.is("6 -1 ahead of row 1, 0 ahead of row 0", x.check(), 1);
        x.forge(1, 4, 1);
        due.is("6 the MONEY of row 1, too", x.check(), 1);
        x.forge(0, 4, 1);
        due.is("6 the MONEY of row 0", x.check(), 0);
        x.shut();
        due.is("6 an empty BOOK is RIGHT", x.check(), Due.NONE);
    }

    private static void moneyOfTheBookBeyondAnInt() {
        HourStore x = of(30, 0, 10, Due.rates(1, 1), 0);
        for (int i = 0; i < 5; i++) {
            x.live(0, 0);
        }
        for (int i = 0; i < 150; i++) {
            x.forge(i, 4, Integer.MIN_VALUE);
        }
        due.is("6 150 times the least", x.count(7), 150L * Integer.MIN_VALUE);
        for (int i = 0; i < 150; i++) {
            due.is("6 what it was", x.forge(i, 4, Integer.MAX_VALUE), Integer.MIN_VALUE);
        }
        due.is("6 150 times the greatest", x.count(7), 150L * Integer.MAX_VALUE);
        x.shut();
        due.is("6 an empty BOOK", x.count(7), 0);
    }
}
