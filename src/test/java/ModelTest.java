import java.util.ArrayList;
import java.util.Comparator;
import java.util.List;
import java.util.Map;
import java.util.Random;
import java.util.TreeMap;

/** Long runs of calls, each answered by FishTins and by a slow second program that follows the document's words. */
public final class ModelTest {
    private static final int RUNS = 400;
    private static final int CALLS = 512;
    private static final int NONE = -1;

    public static void main(String[] args) {
        int wrong = 0;
        for (int run = 0; run < RUNS; run++) {
            wrong += new Run(run).play();
        }
        System.out.println(wrong == 0 ? "all runs agree with the model" : wrong + " runs don't agree with the model");
        if (wrong != 0) {
            System.exit(1);
        }
    }

    /** One run of calls, with a taste of its own so that runs reach different corners. */
    private static final class Run {
        final int number;
        final Random random;
        final FishTins works = new FishTins();
        final Model model = new Model();
        final StringBuilder log = new StringBuilder();
        final int mostFish;
        final int mostHours;
        final boolean manyReads;

        Run(int number) {
            this.number = number;
            random = new Random(7919L * number + 1);
            mostFish = new int[] {12, 60, 400, 5000}[number % 4];
            mostHours = new int[] {2, 5, 30, 400}[number / 4 % 4];
            manyReads = number / 16 % 2 == 0;
        }

        int play() {
            for (int i = 0; i < CALLS; i++) {
                int[] call = i < 8 && number % 5 != 0 ? opening(i) : any();
                long got = answer(works, call);
                long due = model.answer(call);
                log.append(name(call)).append(" = ").append(got).append('\n');
                if (got != due) {
                    System.out.println("run " + number + ", call " + i + ":\n" + tail() + "due is " + due);
                    return 1;
                }
            }
            return 0;
        }

        String tail() {
            return log.length() > 3000 ? ".. " + log.substring(log.length() - 3000) : log.toString();
        }

        int[] opening(int i) {
            if (i < 4) {
                return new int[] {3, i, 1000 * (1 + random.nextInt(7)) + 100 * random.nextInt(2)
                    + 10 * (1 + random.nextInt(9)) + 1 + random.nextInt(5), 1 + random.nextInt(99)};
            }
            return i < 6 ? new int[] {4, i - 4, 1 + random.nextInt(i == 4 ? 10000 : 60)} : new int[] {5, i - 6};
        }

        /** Mostly a number of 0 .. below, now and then one beside it. */
        int near(int below) {
            int dice = random.nextInt(60);
            if (dice == 0) {
                return -1;
            }
            if (dice == 1) {
                return below;
            }
            if (dice == 2 && random.nextInt(4) == 0) {
                return random.nextBoolean() ? Integer.MAX_VALUE : Integer.MIN_VALUE;
            }
            return below < 1 ? 0 : random.nextInt(below);
        }

        int[] any() {
            int dice = random.nextInt(manyReads ? 150 : 70);
            if (dice < 12) {
                return new int[] {0, near(3), 1 + near(mostFish), near(random.nextInt(9) == 0 ? 40 : 20)};
            }
            if (dice < 14) {
                return new int[] {1, 1 + near(random.nextInt(3) == 0 ? 100000 : 500)};
            }
            if (dice < 18) {
                return new int[] {2, near(model.lots.size())};
            }
            if (dice < 20) {
                return new int[] {3, near(4), random.nextInt(8999), near(101)};
            }
            if (dice < 22) {
                return new int[] {4, near(2), 1 + near(random.nextInt(3) == 0 ? 10000 : 50)};
            }
            if (dice < 30) {
                return new int[] {5, near(3)};
            }
            if (dice < 45) {
                return new int[] {6, near(3), near(4), 1 + near(random.nextBoolean() ? 8 : 50)};
            }
            if (dice < 47) {
                return new int[] {7, near(3)};
            }
            if (dice < 58) {
                return new int[] {8, near(random.nextInt(3) > 0 ? 3 : mostHours + 1)};
            }
            if (dice < 63) {
                return new int[] {11, near(6), near(4), 1 + near(random.nextBoolean() ? 5 : 40)};
            }
            if (dice < 66) {
                return new int[] {12, near(6), near(4), 1 + near(random.nextBoolean() ? 20 : 500),
                    model.now / 168 + near(random.nextBoolean() ? 3 : 30)};
            }
            if (dice < 67) {
                return new int[] {14, near(model.lots.size())};
            }
            return read();
        }

        int[] read() {
            switch (random.nextInt(10)) {
                case 0: return new int[] {9, near(4)};
                case 1: return new int[] {10};
                case 2: return new int[] {13, near(model.contracts.size())};
                case 3: return new int[] {15, near(model.lots.size()), near(5)};
                case 4: return new int[] {16, near(model.batches.size()), near(6)};
                case 5: return new int[] {17, near(model.batches.size()), near(model.lots.size())};
                case 6: return new int[] {18, near(3), near(3)};
                case 7: return new int[] {19, near(model.contracts.size()), near(6)};
                default: return new int[] {20, near(14)};
            }
        }
    }

    private static String name(int[] c) {
        String[] names = {"land", "ice", "iced", "kind", "sauce", "call", "pack", "fail", "go", "plan", "worth", "sell",
            "contract", "lacks", "recall", "lot", "batch", "of", "cooker", "told", "count"};
        StringBuilder text = new StringBuilder(names[c[0]]).append('(');
        for (int i = 1; i < c.length; i++) {
            text.append(i > 1 ? ", " : "").append(c[i]);
        }
        return text.append(')').toString();
    }

    private static long answer(FishTins x, int[] c) {
        switch (c[0]) {
            case 0: return x.land(c[1], c[2], c[3]);
            case 1: return x.ice(c[1]);
            case 2: return x.iced(c[1]) ? 1 : 0;
            case 3: return x.kind(c[1], c[2], c[3]) ? 1 : 0;
            case 4: return x.sauce(c[1], c[2]);
            case 5: return x.call(c[1]);
            case 6: return x.pack(c[1], c[2], c[3]);
            case 7: return x.fail(c[1]);
            case 8: return x.go(c[1]);
            case 9: return x.plan(c[1]);
            case 10: return x.worth();
            case 11: return x.sell(c[1], c[2], c[3]);
            case 12: return x.contract(c[1], c[2], c[3], c[4]);
            case 13: return x.lacks(c[1]);
            case 14: return x.recall(c[1]);
            case 15: return x.lot(c[1], c[2]);
            case 16: return x.batch(c[1], c[2]);
            case 17: return x.of(c[1], c[2]);
            case 18: return x.cooker(c[1], c[2]);
            case 19: return x.told(c[1], c[2]);
            default: return x.count(c[1]);
        }
    }

    private record Kind(String sizes, int sauce, int fish, int hours, int price) { }

    private static final class Lot {
        int number;
        int size;
        int kilograms;
        int caught;
        boolean iced;
        boolean recalled;

        int end() {
            return iced ? caught + 40 : caught + 20;
        }
    }

    /** A charge, and then the batch that it becomes. */
    private static final class Tins {
        int kind;
        int cases;
        int left;
        int done;
        final Map<Lot, Integer> fish = new TreeMap<>(Comparator.comparingInt((Lot l) -> l.number));
        final List<Integer> buyers = new ArrayList<>();

        int kilograms() {
            return fish.values().stream().mapToInt(Integer::intValue).sum();
        }

        boolean barred() {
            return fish.keySet().stream().anyMatch(l -> l.recalled);
        }
    }

    private static final class Contract {
        int number;
        int customer;
        int kind;
        int cases;
        int week;
        int had;
        boolean over;
    }

    private static final class Model {
        int now;
        long ice;
        final long[] sauces = new long[2];
        final List<Lot> lots = new ArrayList<>();
        final Kind[] kinds = new Kind[4];
        final int[] crews = {-100, -100, -100};
        final Tins[] cookers = new Tins[3];
        final List<Tins> batches = new ArrayList<>();
        final List<Contract> contracts = new ArrayList<>();
        int packed;
        long meal;
        long coins;
        long fines;

        long answer(int[] c) {
            switch (c[0]) {
                case 0: return land(c[1], c[2], c[3]);
                case 1: return ice(c[1]);
                case 2: return iced(c[1]);
                case 3: return kind(c[1], c[2], c[3]);
                case 4: return sauce(c[1], c[2]);
                case 5: return call(c[1]);
                case 6: return pack(c[1], c[2], c[3]);
                case 7: return fail(c[1]);
                case 8: return go(c[1]);
                case 9: return told(c[1]) ? plan()[c[1]] : NONE;
                case 10: return plan()[4];
                case 11: return sell(c[1], c[2], c[3]);
                case 12: return contract(c[1], c[2], c[3], c[4]);
                case 13: return lacks(c[1]);
                case 14: return recall(c[1]);
                case 15: return lot(c[1], c[2]);
                case 16: return batch(c[1], c[2]);
                case 17: return of(c[1], c[2]);
                case 18: return cooker(c[1], c[2]);
                case 19: return toldOf(c[1], c[2]);
                default: return count(c[1]);
            }
        }

        boolean told(int kind) {
            return kind >= 0 && kind < 4 && kinds[kind] != null;
        }

        static <T> T at(List<T> list, int i) {
            return i >= 0 && i < list.size() ? list.get(i) : null;
        }

        long land(int size, int kilograms, int ago) {
            if (size < 0 || size > 2 || kilograms < 1 || kilograms > 5000 || ago < 0 || ago > 39) {
                return NONE;
            }
            Lot lot = new Lot();
            lot.number = lots.size();
            lot.size = size;
            lot.kilograms = kilograms;
            lot.caught = now - ago;
            if (lots.size() == 60 || now >= lot.end()) {
                return NONE;
            }
            lots.add(lot);
            return lot.number;
        }

        long ice(int kilograms) {
            if (kilograms < 1 || kilograms > 100000 || ice + kilograms > 1000000) {
                return NONE;
            }
            return ice += kilograms;
        }

        long iced(int i) {
            Lot lot = at(lots, i);
            if (lot == null || now >= lot.end() || lot.kilograms == 0 || lot.iced || ice < lot.kilograms) {
                return 0;
            }
            ice -= lot.kilograms;
            lot.iced = true;
            return 1;
        }

        long kind(int kind, int what, int price) {
            if (kind < 0 || kind > 3 || kinds[kind] != null || price < 1 || price > 99 || what < 0) {
                return 0;
            }
            for (int sizes = 1; sizes <= 7; sizes++) {
                for (int sauce = 0; sauce <= 1; sauce++) {
                    for (int fish = 1; fish <= 9; fish++) {
                        for (int hours = 1; hours <= 5; hours++) {
                            if (what == sizes * 1000 + sauce * 100 + fish * 10 + hours) {
                                String list = (sizes % 2 == 1 ? "0" : "") + (sizes / 2 % 2 == 1 ? "1" : "")
                                    + (sizes >= 4 ? "2" : "");
                                kinds[kind] = new Kind(list, sauce, fish, hours, price);
                                return 1;
                            }
                        }
                    }
                }
            }
            return 0;
        }

        long sauce(int sauce, int measures) {
            if (sauce < 0 || sauce > 1 || measures < 1 || measures > 10000 || sauces[sauce] + measures > 100000) {
                return NONE;
            }
            return sauces[sauce] += measures;
        }

        long call(int crew) {
            if (crew < 0 || crew > 2 || now < crews[crew] + 8) {
                return NONE;
            }
            return crews[crew] = now + 3;
        }

        int crewsThere() {
            int sum = 0;
            for (int comes : crews) {
                sum += now - comes >= 0 && now - comes <= 7 ? 1 : 0;
            }
            return sum;
        }

        List<Lot> fishFor(String sizes) {
            List<Lot> list = new ArrayList<>();
            for (Lot lot : lots) {
                if (sizes.contains("" + lot.size) && now < lot.end() && !lot.recalled && lot.kilograms > 0) {
                    list.add(lot);
                }
            }
            list.sort(Comparator.comparingInt((Lot l) -> l.caught).thenComparingInt(l -> l.number));
            return list;
        }

        long pack(int cooker, int kind, int n) {
            if (cooker < 0 || cooker > 2 || cookers[cooker] != null || !told(kind) || n < 1 || n > 50) {
                return NONE;
            }
            int charges = 0;
            for (Tins tins : cookers) {
                charges += tins == null ? 0 : 1;
            }
            Kind k = kinds[kind];
            int want = k.fish * n;
            List<Lot> from = fishFor(k.sizes);
            int there = from.stream().mapToInt(l -> l.kilograms).sum();
            if (batches.size() + charges + 1 > 100 || there < want || sauces[k.sauce] < n
                || packed + want > crewsThere() * 100) {
                return NONE;
            }
            Tins tins = new Tins();
            tins.kind = kind;
            tins.cases = n;
            tins.left = n;
            tins.done = now + k.hours;
            // kilogram by kilogram
            for (int i = 0, at = 0; i < want; i++) {
                while (from.get(at).kilograms == 0) {
                    at++;
                }
                from.get(at).kilograms--;
                tins.fish.merge(from.get(at), 1, Integer::sum);
            }
            cookers[cooker] = tins;
            sauces[k.sauce] -= n;
            packed += want;
            return want;
        }

        long fail(int cooker) {
            if (cooker < 0 || cooker > 2 || cookers[cooker] == null) {
                return NONE;
            }
            int lost = cookers[cooker].kilograms();
            cookers[cooker] = null;
            meal += lost;
            return lost;
        }

        long go(int n) {
            if (n < 0 || n > 400) {
                return NONE;
            }
            for (int i = 0; i < n; i++) {
                if (now < 5000) {
                    hour();
                }
            }
            return now;
        }

        void hour() {
            int week = now / 168;
            now++;
            packed = 0;
            for (int i = 0; i < 3; i++) {
                if (cookers[i] != null && cookers[i].done == now) {
                    batches.add(cookers[i]);
                    cookers[i] = null;
                }
            }
            for (Lot lot : lots) {
                if (now >= lot.end()) {
                    meal += lot.kilograms;
                    lot.kilograms = 0;
                }
            }
            if (now / 168 != week) {
                for (Contract c : contracts) {
                    if (c.week == week) {
                        fines += 2L * kinds[c.kind].price * (c.cases - c.had);
                        c.over = true;
                    }
                }
            }
        }

        /** Every number of cases of every kind, the first ones first: four kinds and the worth. */
        int[] plan() {
            int[] supply = new int[3];
            for (int size = 0; size < 3; size++) {
                supply[size] = fishFor("" + size).stream().mapToInt(l -> l.kilograms).sum();
            }
            int[] most = new int[4];
            int[] price = new int[4];
            for (int k = 0; k < 4; k++) {
                price[k] = kinds[k] == null ? 0 : kinds[k].price;
                // one that can't be alone can't be with others
                int[] alone = new int[5];
                while (kinds[k] != null && most[k] < 20 && ++alone[k] > 0 && canBe(alone, supply)) {
                    most[k]++;
                }
            }
            int[] best = new int[5];
            for (int a = 0; a <= most[0]; a++) {
                for (int b = 0; b <= most[1]; b++) {
                    for (int c = 0; c <= most[2]; c++) {
                        for (int d = 0; d <= most[3]; d++) {
                            int worth = a * price[0] + b * price[1] + c * price[2] + d * price[3];
                            if (worth > best[4] && canBe(new int[] {a, b, c, d}, supply)) {
                                best = new int[] {a, b, c, d, worth};
                            }
                        }
                    }
                }
            }
            return best;
        }

        boolean canBe(int[] cases, int[] supply) {
            int[] measures = new int[2];
            int fish = 0;
            for (int k = 0; k < 4; k++) {
                if (kinds[k] != null) {
                    measures[kinds[k].sauce] += cases[k];
                    fish += kinds[k].fish * cases[k];
                }
            }
            if (measures[0] > sauces[0] || measures[1] > sauces[1] || fish > supply[0] + supply[1] + supply[2]) {
                return false;
            }
            int[][] given = new int[4][3];
            int[] rest = supply.clone();
            for (int k = 0; k < 4; k++) {
                int want = kinds[k] == null ? 0 : kinds[k].fish * cases[k];
                for (int i = 0; i < want; ) {
                    int step = give(k, want - i, given, rest, new boolean[4]);
                    if (step == 0) {
                        return false;
                    }
                    i += step;
                }
            }
            return true;
        }

        /** Gives a kind up to so much fish; another kind that has some takes it elsewhere if need be. */
        int give(int k, int want, int[][] given, int[] rest, boolean[] seen) {
            seen[k] = true;
            for (int size = 0; size < 3; size++) {
                if (kinds[k].sizes.indexOf('0' + size) >= 0 && rest[size] > 0) {
                    int step = Math.min(rest[size], want);
                    rest[size] -= step;
                    given[k][size] += step;
                    return step;
                }
            }
            for (int size = 0; size < 3; size++) {
                for (int other = 0; other < 4; other++) {
                    if (kinds[k].sizes.indexOf('0' + size) >= 0 && !seen[other] && given[other][size] > 0) {
                        int step = give(other, Math.min(want, given[other][size]), given, rest, seen);
                        if (step > 0) {
                            given[other][size] -= step;
                            given[k][size] += step;
                            return step;
                        }
                    }
                }
            }
            return 0;
        }

        int caseWorth(Tins tins) {
            int worth = kinds[tins.kind].price;
            for (int weeks = 4; weeks <= 12; weeks += 4) {
                if (now >= tins.done + weeks * 168) {
                    worth += kinds[tins.kind].price / 10;
                }
            }
            return worth;
        }

        List<Tins> forSale(int kind) {
            List<Tins> list = new ArrayList<>();
            for (Tins tins : batches) {
                if (tins.kind == kind && !tins.barred()) {
                    list.add(tins);
                }
            }
            return list;
        }

        List<Contract> open() {
            List<Contract> list = new ArrayList<>();
            for (Contract c : contracts) {
                if (!c.over) {
                    list.add(c);
                }
            }
            list.sort(Comparator.comparingInt((Contract c) -> c.week).thenComparingInt(c -> c.number));
            return list;
        }

        long sell(int customer, int kind, int n) {
            if (customer < 0 || customer > 5 || !told(kind) || n < 1) {
                return NONE;
            }
            if (n > forSale(kind).stream().mapToInt(t -> t.left).sum()) {
                return NONE;
            }
            long paid = 0;
            // case by case
            for (int i = 0; i < n; i++) {
                for (Tins tins : forSale(kind)) {
                    if (tins.left > 0) {
                        tins.left--;
                        tins.buyers.add(customer);
                        paid += caseWorth(tins);
                        break;
                    }
                }
                for (Contract c : open()) {
                    if (c.customer == customer && c.kind == kind && c.had < c.cases) {
                        c.had++;
                        break;
                    }
                }
            }
            coins += paid;
            return paid;
        }

        long contract(int customer, int kind, int n, int week) {
            if (customer < 0 || customer > 5 || !told(kind) || n < 1 || n > 500 || week < now / 168 || week > 29
                || contracts.size() == 20) {
                return NONE;
            }
            Contract c = new Contract();
            c.number = contracts.size();
            c.customer = customer;
            c.kind = kind;
            c.cases = n;
            c.week = week;
            contracts.add(c);
            return c.number;
        }

        long lacks(int i) {
            Contract contract = at(contracts, i);
            if (contract == null || contract.over) {
                return NONE;
            }
            int there = forSale(contract.kind).stream().mapToInt(t -> t.left).sum();
            for (Contract c : open()) {
                if (c.kind == contract.kind) {
                    int lack = c.cases - c.had;
                    int served = Math.min(there, lack);
                    there -= served;
                    if (c == contract) {
                        return lack - served;
                    }
                }
            }
            throw new IllegalStateException();
        }

        long recall(int i) {
            Lot lot = at(lots, i);
            if (lot == null || lot.recalled) {
                return NONE;
            }
            lot.recalled = true;
            long bits = 0;
            for (Tins tins : batches) {
                if (tins.fish.containsKey(lot)) {
                    for (int customer : tins.buyers) {
                        bits |= 1L << customer;
                    }
                }
            }
            return bits;
        }

        long lot(int i, int what) {
            Lot lot = at(lots, i);
            if (lot == null || what < 0 || what > 4) {
                return NONE;
            }
            return new int[] {lot.size, lot.kilograms, lot.end(), lot.iced ? 1 : 0, lot.recalled ? 1 : 0}[what];
        }

        long batch(int i, int what) {
            Tins tins = at(batches, i);
            if (tins == null || what < 0 || what > 5) {
                return NONE;
            }
            return new int[] {tins.kind, tins.left, tins.done, tins.barred() ? 1 : 0, tins.cases, caseWorth(tins)}[what];
        }

        long of(int i, int j) {
            Tins tins = at(batches, i);
            Lot lot = at(lots, j);
            return tins == null || lot == null ? NONE : tins.fish.getOrDefault(lot, 0);
        }

        long cooker(int cooker, int what) {
            if (cooker < 0 || cooker > 2 || what < 0 || what > 2) {
                return NONE;
            }
            Tins tins = cookers[cooker];
            return tins == null ? new int[] {NONE, 0, NONE}[what] : new int[] {tins.kind, tins.cases, tins.done}[what];
        }

        long toldOf(int i, int what) {
            Contract c = at(contracts, i);
            if (c == null || what < 0 || what > 5) {
                return NONE;
            }
            return new int[] {c.customer, c.kind, c.cases, c.week, c.had, c.over ? 1 : 0}[what];
        }

        long count(int what) {
            if (what < 0 || what > 13) {
                return NONE;
            }
            long charged = 0;
            for (Tins tins : cookers) {
                charged += tins == null ? 0 : tins.kilograms();
            }
            return new long[] {now, lots.size(), lots.stream().mapToInt(l -> l.kilograms).sum(), charged,
                batches.stream().mapToInt(Tins::kilograms).sum(), meal, batches.size(), crewsThere(), packed, coins,
                fines, ice, sauces[0], sauces[1]}[what];
        }
    }
}
