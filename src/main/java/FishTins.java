/** A coast works that puts fish into tins. README.md tells how to use it. */
public final class FishTins {
    public static final int NONE = -1;

    private static final int LAST_HOUR = 5000;
    private static final int MOST_HOURS_A_CALL = 400;
    private static final int HOURS_A_WEEK = 168;
    private static final int LAST_WEEK = 29;
    private static final int SIZES = 3;
    private static final int ALL_SIZES = 7;
    private static final int SAUCES = 2;
    private static final int KINDS = 4;
    private static final int CREWS = 3;
    private static final int COOKERS = 3;
    private static final int CUSTOMERS = 6;
    private static final int MOST_LOTS = 60;
    private static final int MOST_BATCHES = 100;
    private static final int MOST_CONTRACTS = 20;
    private static final int MOST_KILOGRAMS_A_LOT = 5000;
    private static final int MOST_AGO = 39;
    private static final int FRESH_HOURS = 20;
    private static final int ICED_HOURS = 40;
    private static final int MOST_ICE_A_CALL = 100000;
    private static final int MOST_ICE = 1000000;
    private static final int MOST_MEASURES_A_CALL = 10000;
    private static final int MOST_MEASURES = 100000;
    private static final int MOST_FISH_A_CASE = 9;
    private static final int MOST_COOKING_HOURS = 5;
    private static final int MOST_PRICE = 99;
    private static final int HOURS_TILL_CREW = 3;
    private static final int HOURS_OF_CREW = 8;
    private static final int KILOGRAMS_OF_CREW = 100;
    private static final int MOST_CASES_A_CHARGE = 50;
    private static final int MOST_CASES_A_PLAN = 20;
    private static final int MOST_CASES_A_CONTRACT = 500;
    private static final int WEEKS_A_TENTH = 4;
    private static final int MOST_TENTHS = 3;

    private final Lots lots;
    private final Kinds kinds;
    private final Crews crews;
    private final Cookers cookers;
    private final Batches batches;
    private final Contracts contracts;
    private final Planner planner;
    private final int[] sauces;
    private int now;
    private int iceThere;
    private int packedThisHour;
    private int meal;
    private int coins;
    private int fines;

    public FishTins() {
        lots = new Lots();
        kinds = new Kinds();
        crews = new Crews();
        cookers = new Cookers();
        batches = new Batches();
        contracts = new Contracts();
        planner = new Planner();
        sauces = new int[SAUCES];
    }

    public int land(int size, int kilograms, int ago) {
        if (!within(size, 0, SIZES - 1) || !within(kilograms, 1, MOST_KILOGRAMS_A_LOT)) {
            return NONE;
        }
        if (!within(ago, 0, MOST_AGO) || ago >= FRESH_HOURS) {
            return NONE;
        }
        return lots.add(size, kilograms, now - ago);
    }

    public int ice(int kilograms) {
        if (!within(kilograms, 1, MOST_ICE_A_CALL) || iceThere + kilograms > MOST_ICE) {
            return NONE;
        }
        iceThere += kilograms;
        return iceThere;
    }

    public boolean iced(int lot) {
        if (!lots.has(lot) || !lots.isFresh(lot, now) || lots.left[lot] < 1) {
            return false;
        }
        if (lots.onIce[lot] || lots.left[lot] > iceThere) {
            return false;
        }
        iceThere -= lots.left[lot];
        lots.onIce[lot] = true;
        return true;
    }

    public boolean kind(int kind, int what, int price) {
        if (!within(kind, 0, KINDS - 1) || kinds.known[kind]) {
            return false;
        }
        if (!Kinds.canBe(what) || !within(price, 1, MOST_PRICE)) {
            return false;
        }
        kinds.add(kind, what, price);
        return true;
    }

    public int sauce(int sauce, int measures) {
        if (!within(sauce, 0, SAUCES - 1) || !within(measures, 1, MOST_MEASURES_A_CALL)) {
            return NONE;
        }
        if (sauces[sauce] + measures > MOST_MEASURES) {
            return NONE;
        }
        sauces[sauce] += measures;
        return sauces[sauce];
    }

    public int call(int crew) {
        if (!within(crew, 0, CREWS - 1) || !crews.isGone(crew, now)) {
            return NONE;
        }
        crews.comes[crew] = now + HOURS_TILL_CREW;
        crews.wasCalled[crew] = true;
        return crews.comes[crew];
    }

    public int pack(int cooker, int kind, int n) {
        if (!within(cooker, 0, COOKERS - 1) || !cookers.isFree(cooker)) {
            return NONE;
        }
        if (!kinds.has(kind) || !within(n, 1, MOST_CASES_A_CHARGE)) {
            return NONE;
        }
        int kilograms = n * kinds.fish[kind];
        if (batches.number + cookers.charges() >= MOST_BATCHES || !canPack(kind, n, kilograms)) {
            return NONE;
        }
        sauces[kinds.sauce[kind]] -= n;
        packedThisHour += kilograms;
        cookers.fill(cooker, kind, n, kilograms, now + kinds.hours[kind]);
        lots.take(kinds.takes[kind], kilograms, cookers.fish, cooker * MOST_LOTS);
        return kilograms;
    }

    public int fail(int cooker) {
        if (!within(cooker, 0, COOKERS - 1) || cookers.isFree(cooker)) {
            return NONE;
        }
        int lost = cookers.kilograms[cooker];
        meal += lost;
        cookers.empty(cooker);
        return lost;
    }

    public int go(int n) {
        if (!within(n, 0, MOST_HOURS_A_CALL)) {
            return NONE;
        }
        for (int i = 0; i < n && now < LAST_HOUR; i++) {
            passHour();
        }
        return now;
    }

    public int plan(int kind) {
        if (!kinds.has(kind)) {
            return NONE;
        }
        planner.update(kinds, lots, sauces);
        return planner.best[kind];
    }

    public int worth() {
        planner.update(kinds, lots, sauces);
        return planner.bestWorth;
    }

    public int sell(int customer, int kind, int n) {
        if (!within(customer, 0, CUSTOMERS - 1) || !kinds.has(kind)) {
            return NONE;
        }
        if (!within(n, 1, batches.stock(kind))) {
            return NONE;
        }
        int paid = batches.deliver(customer, kind, n, kinds.price[kind], now);
        contracts.serve(customer, kind, n);
        coins += paid;
        return paid;
    }

    public int contract(int customer, int kind, int n, int week) {
        if (!within(customer, 0, CUSTOMERS - 1) || !kinds.has(kind)) {
            return NONE;
        }
        if (!within(n, 1, MOST_CASES_A_CONTRACT) || !within(week, now / HOURS_A_WEEK, LAST_WEEK)) {
            return NONE;
        }
        return contracts.add(customer, kind, n, week);
    }

    public int lacks(int contract) {
        if (!contracts.has(contract) || contracts.over[contract]) {
            return NONE;
        }
        return contracts.shortOf(contract, batches.stock(contracts.kind[contract]));
    }

    public int recall(int lot) {
        if (!lots.has(lot) || lots.recalled[lot]) {
            return NONE;
        }
        lots.recalled[lot] = true;
        return batches.bar(lot);
    }

    public int lot(int lot, int what) {
        if (!lots.has(lot)) {
            return NONE;
        }
        switch (what) {
            case 0: return lots.size[lot];
            case 1: return lots.left[lot];
            case 2: return lots.staleHour(lot);
            case 3: return bit(lots.onIce[lot]);
            case 4: return bit(lots.recalled[lot]);
            default: return NONE;
        }
    }

    public int batch(int batch, int what) {
        if (!batches.has(batch)) {
            return NONE;
        }
        switch (what) {
            case 0: return batches.kind[batch];
            case 1: return batches.left[batch];
            case 2: return batches.done[batch];
            case 3: return bit(batches.barred[batch]);
            case 4: return batches.cases[batch];
            case 5: return batches.caseWorth(batch, kinds.price[batches.kind[batch]], now);
            default: return NONE;
        }
    }

    public int of(int batch, int lot) {
        if (!batches.has(batch) || !lots.has(lot)) {
            return NONE;
        }
        return batches.fish[batch * MOST_LOTS + lot];
    }

    public int cooker(int cooker, int what) {
        if (!within(cooker, 0, COOKERS - 1)) {
            return NONE;
        }
        switch (what) {
            case 0: return cookers.kind[cooker];
            case 1: return cookers.cases[cooker];
            case 2: return cookers.done[cooker];
            default: return NONE;
        }
    }

    public int told(int contract, int what) {
        if (!contracts.has(contract)) {
            return NONE;
        }
        switch (what) {
            case 0: return contracts.customer[contract];
            case 1: return contracts.kind[contract];
            case 2: return contracts.wanted[contract];
            case 3: return contracts.week[contract];
            case 4: return contracts.had[contract];
            case 5: return bit(contracts.over[contract]);
            default: return NONE;
        }
    }

    public int count(int what) {
        switch (what) {
            case 0: return now;
            case 1: return lots.number;
            case 2: return lots.kilograms();
            case 3: return cookers.allKilograms();
            case 4: return batches.kilograms;
            case 5: return meal;
            case 6: return batches.number;
            case 7: return crews.there(now);
            case 8: return packedThisHour;
            case 9: return coins;
            case 10: return fines;
            case 11: return iceThere;
            case 12: return sauces[0];
            case 13: return sauces[1];
            default: return NONE;
        }
    }

    private boolean canPack(int kind, int n, int kilograms) {
        return sauces[kinds.sauce[kind]] >= n
            && lots.usable(kinds.takes[kind]) >= kilograms
            && crews.there(now) * KILOGRAMS_OF_CREW - packedThisHour >= kilograms;
    }

    private void passHour() {
        now++;
        packedThisHour = 0;
        finishCharges();
        meal += lots.spoil(now);
        if (now % HOURS_A_WEEK == 0) {
            fines += contracts.close(now / HOURS_A_WEEK - 1, kinds.price);
        }
    }

    private void finishCharges() {
        for (int cooker = 0; cooker < COOKERS; cooker++) {
            if (!cookers.isFree(cooker) && cookers.done[cooker] <= now) {
                int batch = batches.add(cookers, cooker);
                if (batch != NONE) {
                    batches.barred[batch] = lots.anyRecalled(batches.fish, batch * MOST_LOTS);
                }
                cookers.empty(cooker);
            }
        }
    }

    private static boolean within(int value, int least, int most) {
        return value >= least && value <= most;
    }

    private static int bit(boolean flag) {
        return flag ? 1 : 0;
    }

    /** Puts the newest number into an order by keys; it goes behind older ones with a like key. */
    private static void putInOrder(int[] order, int[] keys, int newest) {
        int at = newest;
        for (; at > 0 && keys[order[at - 1]] > keys[newest]; at--) {
            order[at] = order[at - 1];
        }
        order[at] = newest;
    }

    /** The lots by their numbers. A lot that isn't fresh any more has nothing left: it went to meal. */
    private static final class Lots {
        final int[] size = new int[MOST_LOTS];
        final int[] left = new int[MOST_LOTS];
        final int[] caught = new int[MOST_LOTS];
        final boolean[] onIce = new boolean[MOST_LOTS];
        final boolean[] recalled = new boolean[MOST_LOTS];
        final int[] byCatch = new int[MOST_LOTS];
        int number;

        boolean has(int lot) {
            return within(lot, 0, number - 1);
        }

        int add(int ofSize, int kilograms, int hour) {
            if (number >= MOST_LOTS) {
                return NONE;
            }
            int lot = number;
            size[lot] = ofSize;
            left[lot] = kilograms;
            caught[lot] = hour;
            putInOrder(byCatch, caught, lot);
            number++;
            return lot;
        }

        int staleHour(int lot) {
            return caught[lot] + (onIce[lot] ? ICED_HOURS : FRESH_HOURS);
        }

        boolean isFresh(int lot, int hour) {
            return hour < staleHour(lot);
        }

        int kilograms() {
            int sum = 0;
            for (int lot = 0; lot < number; lot++) {
                sum += left[lot];
            }
            return sum;
        }

        boolean isUsable(int lot, int takes) {
            return !recalled[lot] && (takes >> size[lot] & 1) == 1;
        }

        int usable(int takes) {
            int sum = 0;
            for (int lot = 0; lot < number; lot++) {
                if (isUsable(lot, takes)) {
                    sum += left[lot];
                }
            }
            return sum;
        }

        /** What comes of each lot is written to a row of fish by lots that begins at first. */
        void take(int takes, int kilograms, int[] fish, int first) {
            int lacking = kilograms;
            for (int i = 0; i < number && lacking > 0; i++) {
                int lot = byCatch[i];
                if (isUsable(lot, takes)) {
                    int part = Math.min(left[lot], lacking);
                    left[lot] -= part;
                    fish[first + lot] = part;
                    lacking -= part;
                }
            }
        }

        boolean anyRecalled(int[] fish, int first) {
            for (int lot = 0; lot < number; lot++) {
                if (recalled[lot] && fish[first + lot] > 0) {
                    return true;
                }
            }
            return false;
        }

        int spoil(int hour) {
            int lost = 0;
            for (int lot = 0; lot < number; lot++) {
                if (!isFresh(lot, hour)) {
                    lost += left[lot];
                    left[lot] = 0;
                }
            }
            return lost;
        }
    }

    /** The kinds of tins; one that wasn't told yet takes no fish and has no price. */
    private static final class Kinds {
        final boolean[] known = new boolean[KINDS];
        final int[] takes = new int[KINDS];
        final int[] sauce = new int[KINDS];
        final int[] fish = new int[KINDS];
        final int[] hours = new int[KINDS];
        final int[] price = new int[KINDS];
        int number;

        static boolean canBe(int what) {
            return within(takesOf(what), 1, ALL_SIZES)
                && within(sauceOf(what), 0, SAUCES - 1)
                && within(fishOf(what), 1, MOST_FISH_A_CASE)
                && within(hoursOf(what), 1, MOST_COOKING_HOURS);
        }

        private static int takesOf(int what) {
            return what / 1000;
        }

        private static int sauceOf(int what) {
            return what / 100 % 10;
        }

        private static int fishOf(int what) {
            return what / 10 % 10;
        }

        private static int hoursOf(int what) {
            return what % 10;
        }

        boolean has(int kind) {
            return within(kind, 0, KINDS - 1) && known[kind];
        }

        void add(int kind, int what, int aCase) {
            takes[kind] = takesOf(what);
            sauce[kind] = sauceOf(what);
            fish[kind] = fishOf(what);
            hours[kind] = hoursOf(what);
            price[kind] = aCase;
            known[kind] = true;
            number++;
        }
    }

    private static final class Crews {
        final boolean[] wasCalled = new boolean[CREWS];
        final int[] comes = new int[CREWS];

        boolean isGone(int crew, int hour) {
            return !wasCalled[crew] || hour >= comes[crew] + HOURS_OF_CREW;
        }

        int there(int hour) {
            int sum = 0;
            for (int crew = 0; crew < CREWS; crew++) {
                if (!isGone(crew, hour) && hour >= comes[crew]) {
                    sum++;
                }
            }
            return sum;
        }
    }

    private static final class Cookers {
        final int[] kind = new int[COOKERS];
        final int[] cases = new int[COOKERS];
        final int[] done = new int[COOKERS];
        final int[] kilograms = new int[COOKERS];
        final int[] fish = new int[COOKERS * MOST_LOTS];

        Cookers() {
            for (int cooker = 0; cooker < COOKERS; cooker++) {
                empty(cooker);
            }
        }

        boolean isFree(int cooker) {
            return kind[cooker] == NONE;
        }

        int charges() {
            int sum = 0;
            for (int cooker = 0; cooker < COOKERS; cooker++) {
                sum += bit(!isFree(cooker));
            }
            return sum;
        }

        int allKilograms() {
            int sum = 0;
            for (int cooker = 0; cooker < COOKERS; cooker++) {
                sum += kilograms[cooker];
            }
            return sum;
        }

        void fill(int cooker, int ofKind, int n, int fishIn, int doneHour) {
            kind[cooker] = ofKind;
            cases[cooker] = n;
            kilograms[cooker] = fishIn;
            done[cooker] = doneHour;
        }

        void empty(int cooker) {
            fill(cooker, NONE, 0, 0, NONE);
            for (int lot = 0; lot < MOST_LOTS; lot++) {
                fish[cooker * MOST_LOTS + lot] = 0;
            }
        }
    }

    private static final class Batches {
        final int[] kind = new int[MOST_BATCHES];
        final int[] cases = new int[MOST_BATCHES];
        final int[] left = new int[MOST_BATCHES];
        final int[] done = new int[MOST_BATCHES];
        final int[] buyers = new int[MOST_BATCHES];
        final boolean[] barred = new boolean[MOST_BATCHES];
        final int[] fish = new int[MOST_BATCHES * MOST_LOTS];
        int number;
        int kilograms;

        boolean has(int batch) {
            return within(batch, 0, number - 1);
        }

        int add(Cookers cookers, int cooker) {
            if (number >= MOST_BATCHES) {
                return NONE;
            }
            int batch = number;
            kind[batch] = cookers.kind[cooker];
            cases[batch] = cookers.cases[cooker];
            left[batch] = cookers.cases[cooker];
            done[batch] = cookers.done[cooker];
            System.arraycopy(cookers.fish, cooker * MOST_LOTS, fish, batch * MOST_LOTS, MOST_LOTS);
            kilograms += cookers.kilograms[cooker];
            number++;
            return batch;
        }

        boolean isForSale(int batch, int ofKind) {
            return kind[batch] == ofKind && !barred[batch];
        }

        int stock(int ofKind) {
            int sum = 0;
            for (int batch = 0; batch < number; batch++) {
                if (isForSale(batch, ofKind)) {
                    sum += left[batch];
                }
            }
            return sum;
        }

        int caseWorth(int batch, int price, int hour) {
            int age = (hour - done[batch]) / HOURS_A_WEEK;
            return price + price / 10 * Math.min(MOST_TENTHS, age / WEEKS_A_TENTH);
        }

        int deliver(int customer, int ofKind, int n, int price, int hour) {
            int lacking = n;
            int paid = 0;
            for (int batch = 0; batch < number && lacking > 0; batch++) {
                if (isForSale(batch, ofKind) && left[batch] > 0) {
                    int part = Math.min(left[batch], lacking);
                    left[batch] -= part;
                    lacking -= part;
                    paid += part * caseWorth(batch, price, hour);
                    buyers[batch] |= 1 << customer;
                }
            }
            return paid;
        }

        /** Bars all that has fish of a lot; the answer is who bought of it (bits). */
        int bar(int lot) {
            int customers = 0;
            for (int batch = 0; batch < number; batch++) {
                if (fish[batch * MOST_LOTS + lot] > 0) {
                    barred[batch] = true;
                    customers |= buyers[batch];
                }
            }
            return customers;
        }
    }

    private static final class Contracts {
        final int[] customer = new int[MOST_CONTRACTS];
        final int[] kind = new int[MOST_CONTRACTS];
        final int[] wanted = new int[MOST_CONTRACTS];
        final int[] week = new int[MOST_CONTRACTS];
        final int[] had = new int[MOST_CONTRACTS];
        final boolean[] over = new boolean[MOST_CONTRACTS];
        final int[] byWeek = new int[MOST_CONTRACTS];
        int number;

        boolean has(int contract) {
            return within(contract, 0, number - 1);
        }

        int add(int ofCustomer, int ofKind, int n, int byEndOf) {
            if (number >= MOST_CONTRACTS) {
                return NONE;
            }
            int contract = number;
            customer[contract] = ofCustomer;
            kind[contract] = ofKind;
            wanted[contract] = n;
            week[contract] = byEndOf;
            putInOrder(byWeek, week, contract);
            number++;
            return contract;
        }

        void serve(int toCustomer, int ofKind, int n) {
            int rest = n;
            for (int i = 0; i < number && rest > 0; i++) {
                int contract = byWeek[i];
                if (!over[contract] && customer[contract] == toCustomer && kind[contract] == ofKind) {
                    int part = Math.min(wanted[contract] - had[contract], rest);
                    had[contract] += part;
                    rest -= part;
                }
            }
        }

        /** What a contract would lack if the stock went to all of its kind, those before it first. */
        int shortOf(int contract, int stock) {
            int rest = stock;
            for (int i = 0; i < number && byWeek[i] != contract; i++) {
                int before = byWeek[i];
                if (!over[before] && kind[before] == kind[contract]) {
                    rest -= Math.min(wanted[before] - had[before], rest);
                }
            }
            return Math.max(0, wanted[contract] - had[contract] - rest);
        }

        /** Ends all contracts of a week; the answer is the fine for what they lack. */
        int close(int ended, int[] prices) {
            int fine = 0;
            for (int contract = 0; contract < number; contract++) {
                if (week[contract] == ended && !over[contract]) {
                    fine += (wanted[contract] - had[contract]) * 2 * prices[kind[contract]];
                    over[contract] = true;
                }
            }
            return fine;
        }
    }

    /**
     * The plan that is worth most. Kilograms of fish can be given to kinds if and only if, for each
     * set of sizes, the kinds that take no size outside it want no more than all fish of the set.
     */
    private static final class Planner {
        final int[] supply = new int[SIZES];
        final int[] measures = new int[SAUCES];
        final int[] room = new int[ALL_SIZES + 1];
        final int[] hope = new int[KINDS + 1];
        final int[] tried = new int[KINDS];
        final int[] best = new int[KINDS];
        int kindsKnown;
        int bestWorth;

        /** Searches only if something is new, as a caller often asks for all parts of one plan. */
        void update(Kinds kinds, Lots lots, int[] sauces) {
            boolean isNew = kindsKnown != kinds.number;
            kindsKnown = kinds.number;
            for (int size = 0; size < SIZES; size++) {
                int fish = lots.usable(1 << size);
                isNew = isNew || supply[size] != fish;
                supply[size] = fish;
            }
            for (int sauce = 0; sauce < SAUCES; sauce++) {
                isNew = isNew || measures[sauce] != sauces[sauce];
                measures[sauce] = sauces[sauce];
            }
            if (isNew) {
                prepare(kinds);
                search(this, kinds, 0, 0);
            }
        }

        private void prepare(Kinds kinds) {
            for (int set = 1; set <= ALL_SIZES; set++) {
                room[set] = 0;
                for (int size = 0; size < SIZES; size++) {
                    room[set] += (set >> size & 1) * supply[size];
                }
            }
            for (int kind = KINDS - 1; kind >= 0; kind--) {
                hope[kind] = hope[kind + 1] + kinds.price[kind] * mostCases(kinds, kind);
            }
            bestWorth = 0;
        }

        /** Goes from many cases to few, so that of plans worth the same the first one is kept last. */
        private static void search(Planner plan, Kinds kinds, int kind, int soFar) {
            if (kind >= KINDS) {
                plan.keepTried(soFar);
                return;
            }
            int most = plan.mostCases(kinds, kind);
            // more of the last kind is always worth more, so fewer of it needn't be tried
            int least = kind == KINDS - 1 ? most : 0;
            for (int n = most; n >= least; n--) {
                int gained = soFar + n * kinds.price[kind];
                if (gained + plan.hope[kind + 1] < plan.bestWorth) {
                    return;
                }
                plan.tried[kind] = n;
                plan.use(kinds, kind, n);
                search(plan, kinds, kind + 1, gained);
                plan.use(kinds, kind, -n);
            }
        }

        private void keepTried(int gained) {
            if (gained >= bestWorth) {
                bestWorth = gained;
                System.arraycopy(tried, 0, best, 0, KINDS);
            }
        }

        private int mostCases(Kinds kinds, int kind) {
            int fish = kinds.fish[kind];
            if (fish < 1) {
                return 0;
            }
            int takes = kinds.takes[kind];
            int most = Math.min(MOST_CASES_A_PLAN, measures[kinds.sauce[kind]]);
            for (int set = takes; set <= ALL_SIZES; set++) {
                if ((set & takes) == takes) {
                    most = Math.min(most, room[set] / fish);
                }
            }
            return most;
        }

        private void use(Kinds kinds, int kind, int n) {
            int takes = kinds.takes[kind];
            measures[kinds.sauce[kind]] -= n;
            for (int set = takes; set <= ALL_SIZES; set++) {
                if ((set & takes) == takes) {
                    room[set] -= n * kinds.fish[kind];
                }
            }
        }
    }
}
