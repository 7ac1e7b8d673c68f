import java.util.NoSuchElementException;

/** A chancery that is in charge of statues. ../shared/DOC.md says what each call of it promises. */
public final class StatueChancery {
    private static final int MOST_PEDESTALS = 8;
    private static final int MOST_STATUES = 6;
    private static final int HEAVIEST_STATUE = 99;
    private static final int MOST_WRITS = 8;
    private static final int LONGEST_WRIT = 20;
    private static final int HIGHEST_BAIL = 60;
    private static final int HEAVIEST_BLOCK = 20;
    private static final int MOST_BLOCKS_OF_A_WEIGHT = 99;
    private static final int MOST_BLOCKS_AT_ONCE = 9;
    private static final int MOST_NIGHTS_AT_ONCE = 50;
    private static final int MOST_STEPS = 9999;
    private static final int MOST_STEPS_CHECKED = 20;
    private static final int MOST_UNDOS = 8;
    private static final int LONGEST_SCRIPT = 60;
    private static final int MOST_ARGUMENTS = 4;
    private static final int MOST_DIGITS = 3;
    private static final char FIRST_SIGN = 32;
    private static final char LAST_SIGN = 126;

    /** Stands for no statue, no writ, no number: each of these is 0 or more. */
    private static final int NONE = -1;
    /** Stands for the number of blocks where no blocks add up; above every number of blocks that do. */
    private static final int NO_WAY = 1000;

    private static final char UPHELD = 'u';
    private static final char DISMISSED = 'd';

    /*
     * Faults are told by these signs instead of by exceptions within the class, so that a script can learn of a
     * command's failure without a catch.
     */
    private static final char NO_FAULT = '-';
    private static final char OUT_OF_BOUNDS = 'i';
    private static final char WRONG_ARGUMENT = 'a';
    private static final char WRONG_STATE = 's';
    private static final char NO_SUCH_ELEMENT = 'e';
    private static final char UNSUPPORTED = 'u';

    private final Realm now = new Realm();
    /** Where scripts and predictions run, so that the present realm stays as it is while they may still fail. */
    private final Realm trial = new Realm();
    private final Realm snapshot = new Realm();
    private boolean hasSnapshot = false;
    private final History history = new History();
    private final Leaps leaps = new Leaps();
    private final Docket docket = new Docket();
    private final Till till = new Till();
    private final Script script = new Script();
    private final StringBuilder output = new StringBuilder();
    private int latestErrorPosition = NONE;
    private int latestFailedCommand = NONE;
    private char latestFailureKind = NO_FAULT;

    public StatueChancery() {
    }

    public int addPedestal() throws IllegalStateException {
        raise(now.pedestalFault());
        history.remember(now);
        return now.plaza.putPedestal();
    }

    public int setArrow(int pedestal, int target) throws IndexOutOfBoundsException {
        raise(now.arrowFault(pedestal, target));
        history.remember(now);
        return now.plaza.turnArrow(pedestal, target);
    }

    public int addStatue(int pedestal, int weight)
            throws IndexOutOfBoundsException, IllegalArgumentException, IllegalStateException {
        raise(now.statueFault(pedestal, weight));
        history.remember(now);
        return now.plaza.putStatue(pedestal, weight);
    }

    public int setHome(int statue, int pedestal) throws IndexOutOfBoundsException {
        raise(now.homeFault(statue, pedestal));
        history.remember(now);
        return now.plaza.giveHome(statue, pedestal);
    }

    public int issueWrit(int statue, int nights, int bail)
            throws IndexOutOfBoundsException, IllegalArgumentException, IllegalStateException {
        raise(now.writFault(statue, nights, bail));
        history.remember(now);
        return now.openWrit(statue, nights, bail, NONE);
    }

    public int issueFollower(int statue, int nights, int bail, int cause)
            throws IndexOutOfBoundsException, IllegalArgumentException, NoSuchElementException,
            IllegalStateException {
        raise(now.followerFault(statue, nights, bail, cause));
        history.remember(now);
        return now.openWrit(statue, nights, bail, cause);
    }

    public int addBlocks(int weight, int count) throws IllegalArgumentException, IllegalStateException {
        raise(now.blockFault(weight, count));
        history.remember(now);
        return now.marble.putBlocks(weight, count);
    }

    public int payBail(int writ)
            throws NoSuchElementException, IllegalStateException, UnsupportedOperationException {
        raise(now.payFault(writ, till));
        history.remember(now);
        return now.settleBail(writ, till);
    }

    public char hear(int writ) throws NoSuchElementException, IllegalStateException {
        raise(now.hearFault(writ));
        history.remember(now);
        return now.holdHearing(writ);
    }

    public int passNights(int nights) throws IllegalArgumentException {
        raise(now.nightFault(nights));
        history.remember(now);
        return now.letNightsPass(nights);
    }

    public int pedestalCount() {
        return now.plaza.pedestals;
    }

    public int arrow(int pedestal) throws IndexOutOfBoundsException {
        requirePedestal(pedestal);
        return now.plaza.arrows[pedestal];
    }

    public boolean isFree(int pedestal) throws IndexOutOfBoundsException {
        requirePedestal(pedestal);
        return now.plaza.standingOn(pedestal) == NONE;
    }

    public int statueOn(int pedestal) throws IndexOutOfBoundsException, NoSuchElementException {
        requirePedestal(pedestal);
        return existing(now.plaza.standingOn(pedestal));
    }

    public int arrowAfter(int pedestal, int steps) throws IndexOutOfBoundsException, IllegalArgumentException {
        requirePedestal(pedestal);
        requireBetween(steps, 0, MOST_STEPS);
        return now.plaza.followArrows(pedestal, steps);
    }

    public int arrowAfterByDoubling(int pedestal, int steps)
            throws IndexOutOfBoundsException, IllegalArgumentException {
        requirePedestal(pedestal);
        requireBetween(steps, 0, MOST_STEPS);
        return leaps.followArrows(now.plaza, pedestal, steps);
    }

    public int roundLength(int pedestal) throws IndexOutOfBoundsException {
        requirePedestal(pedestal);
        return now.plaza.lengthOfRound(pedestal);
    }

    public int statueCount() {
        return now.plaza.statues;
    }

    public int pedestalOf(int statue) throws IndexOutOfBoundsException {
        requireStatue(statue);
        return now.plaza.places[statue];
    }

    public int home(int statue) throws IndexOutOfBoundsException {
        requireStatue(statue);
        return now.plaza.homes[statue];
    }

    public int weightOf(int statue) throws IndexOutOfBoundsException {
        requireStatue(statue);
        return now.plaza.weights[statue];
    }

    public boolean isBound(int statue) throws IndexOutOfBoundsException {
        requireStatue(statue);
        return now.writs.bind(statue);
    }

    public boolean isHome(int statue) throws IndexOutOfBoundsException {
        requireStatue(statue);
        return now.plaza.standsAtHome(statue);
    }

    public int statueByWeight(int rank) throws NoSuchElementException {
        requireRank(rank, now.plaza.statues);
        return now.plaza.heaviestFirst[rank];
    }

    public int nightsUntilHome(int statue) throws IndexOutOfBoundsException, NoSuchElementException {
        requireStatue(statue);
        trial.copyFrom(now);
        return existing(trial.nightsUntilAtHome(statue));
    }

    public int writCount() {
        return now.writs.count;
    }

    public int writAt(int position) throws NoSuchElementException {
        requireRank(position, now.writs.count);
        return now.writs.ids[position];
    }

    public int statueOf(int writ) throws NoSuchElementException {
        return now.writs.statues[positionOf(writ)];
    }

    public int lastNight(int writ) throws NoSuchElementException {
        return now.writs.lastNights[positionOf(writ)];
    }

    public int bail(int writ) throws NoSuchElementException {
        return now.writs.bails[positionOf(writ)];
    }

    public boolean isPaid(int writ) throws NoSuchElementException {
        return now.writs.paid[positionOf(writ)];
    }

    public int causeOf(int writ) throws NoSuchElementException {
        return existing(now.writs.causes[positionOf(writ)]);
    }

    public int causeDepth(int writ) throws NoSuchElementException {
        return now.writs.countCauses(positionOf(writ));
    }

    public int followers(int writ) throws NoSuchElementException {
        return Integer.bitCount(now.writs.withFollowers(positionOf(writ))) - 1;
    }

    public int docketValue() {
        return docket.valueByGivingUp(now.writs, now.firstHearingNight());
    }

    public int docketValueBySets() {
        return docket.valueByTryingSets(now.writs, now.firstHearingNight());
    }

    public int writByLastNight(int rank) throws NoSuchElementException {
        requireRank(rank, now.writs.count);
        return now.writs.ids[docket.positionAtRank(now.writs, rank)];
    }

    public int blocks(int weight) throws IllegalArgumentException {
        requireBetween(weight, 1, HEAVIEST_BLOCK);
        return now.marble.store[weight];
    }

    public int fewestBlocks(int amount) throws IllegalArgumentException, UnsupportedOperationException {
        requireBetween(amount, 1, HIGHEST_BAIL);
        till.fillTable(now.marble.store);
        return payable(till.fewestByTable(amount));
    }

    public int fewestBlocksBySearch(int amount) throws IllegalArgumentException, UnsupportedOperationException {
        requireBetween(amount, 1, HIGHEST_BAIL);
        return payable(till.fewestBySearch(now.marble.store, amount));
    }

    public int marbleTotal() {
        return now.marble.weightHeld();
    }

    public int marbleByAccounts() {
        return now.marble.weightAdded();
    }

    public int treasury() {
        return now.marble.treasured;
    }

    public int night() {
        return now.night;
    }

    public int upheldTotal() {
        return now.upheld;
    }

    public int dismissedTotal() {
        return now.dismissed;
    }

    public int lapsedTotal() {
        return now.lapsed;
    }

    public double meanWeight() throws ArithmeticException {
        requireStatues();
        return (double) now.plaza.weightOfAll() / (double) now.plaza.statues;
    }

    public float homeShare() throws ArithmeticException {
        requireStatues();
        return (float) now.plaza.countAtHome() / (float) now.plaza.statues;
    }

    public boolean isConsistent() {
        return arrowsAgree() && docketsAgree() && blocksAgree()
                && now.marble.weightHeld() == now.marble.weightAdded() && now.plaza.standApart();
    }

    public int renderStatue(int statue) throws IndexOutOfBoundsException {
        requireStatue(statue);
        output.setLength(0);
        output.append(statue).append('@').append(now.plaza.places[statue]);
        output.append('>').append(now.plaza.homes[statue]);
        output.append(' ').append(now.plaza.weights[statue]).append("kg");
        if (now.writs.bind(statue)) {
            output.append('!');
        }
        return output.length();
    }

    public int renderWrit(int writ) throws NoSuchElementException {
        int position = positionOf(writ);
        Writs writs = now.writs;
        output.setLength(0);
        output.append(writ).append(':').append(writs.statues[position]);
        if (writs.causes[position] != NONE) {
            output.append('<').append(writs.causes[position]);
        }
        output.append('#').append(writs.lastNights[position]);
        output.append('$').append(writs.bails[position]);
        if (writs.paid[position]) {
            output.append('+');
        }
        return output.length();
    }

    public char outputAt(int index) throws IndexOutOfBoundsException {
        if (index < 0 || index >= output.length()) {
            throw new IndexOutOfBoundsException();
        }
        return output.charAt(index);
    }

    public int type(char character) throws IllegalArgumentException, IllegalStateException {
        requireBetween(character, FIRST_SIGN, LAST_SIGN);
        if (script.isFull()) {
            throw new IllegalStateException();
        }
        return script.append(character);
    }

    public int runScript() throws IllegalArgumentException, IllegalStateException {
        boolean wellFormed = script.read();
        script.clear();
        if (!wellFormed) {
            latestErrorPosition = script.position;
            throw new IllegalArgumentException();
        }
        trial.copyFrom(now);
        for (int i = 0; i < script.count; i++) {
            Command command = script.commands[i];
            int[] given = script.arguments[i];
            char fault = faultOf(command, given[0], given[1], given[2], given[3]);
            if (fault != NO_FAULT) {
                latestFailedCommand = i;
                latestFailureKind = fault;
                throw new IllegalStateException();
            }
            carryOut(command, given[0], given[1], given[2], given[3]);
        }
        history.remember(now);
        now.copyFrom(trial);
        return script.count;
    }

    public int errorPosition() throws NoSuchElementException {
        return existing(latestErrorPosition);
    }

    public int failedCommand() throws NoSuchElementException {
        return existing(latestFailedCommand);
    }

    public char failureKind() throws NoSuchElementException {
        if (latestFailureKind == NO_FAULT) {
            throw new NoSuchElementException();
        }
        return latestFailureKind;
    }

    public int undo() throws NoSuchElementException {
        if (history.count == 0) {
            throw new NoSuchElementException();
        }
        return history.takeBack(now);
    }

    public int save() {
        snapshot.copyFrom(now);
        hasSnapshot = true;
        return now.plaza.statues;
    }

    public int restore() throws IllegalStateException {
        if (!hasSnapshot) {
            throw new IllegalStateException();
        }
        now.copyFrom(snapshot);
        history.forget();
        return now.plaza.statues;
    }

    private static void raise(char fault) {
        switch (fault) {
            case OUT_OF_BOUNDS:
                throw new IndexOutOfBoundsException();
            case WRONG_ARGUMENT:
                throw new IllegalArgumentException();
            case WRONG_STATE:
                throw new IllegalStateException();
            case NO_SUCH_ELEMENT:
                throw new NoSuchElementException();
            case UNSUPPORTED:
                throw new UnsupportedOperationException();
            default:
                return;
        }
    }

    private void requirePedestal(int pedestal) {
        if (!now.plaza.hasPedestal(pedestal)) {
            throw new IndexOutOfBoundsException();
        }
    }

    private void requireStatue(int statue) {
        if (!now.plaza.hasStatue(statue)) {
            throw new IndexOutOfBoundsException();
        }
    }

    private void requireStatues() {
        if (now.plaza.statues == 0) {
            throw new ArithmeticException();
        }
    }

    private static void requireBetween(int number, int least, int most) {
        if (!isBetween(number, least, most)) {
            throw new IllegalArgumentException();
        }
    }

    private static void requireRank(int rank, int count) {
        if (rank < 0 || rank >= count) {
            throw new NoSuchElementException();
        }
    }

    private static int existing(int number) {
        if (number == NONE) {
            throw new NoSuchElementException();
        }
        return number;
    }

    private static int payable(int blocks) {
        if (blocks == NO_WAY) {
            throw new UnsupportedOperationException();
        }
        return blocks;
    }

    private int positionOf(int writ) {
        return existing(now.writs.find(writ));
    }

    private static boolean isBetween(int number, int least, int most) {
        return number >= least && number <= most;
    }

    private boolean arrowsAgree() {
        Plaza plaza = now.plaza;
        for (int pedestal = 0; pedestal < plaza.pedestals; pedestal++) {
            for (int steps = 0; steps <= MOST_STEPS_CHECKED; steps++) {
                if (plaza.followArrows(pedestal, steps) != leaps.followArrows(plaza, pedestal, steps)) {
                    return false;
                }
            }
        }
        return true;
    }

    private boolean docketsAgree() {
        int firstNight = now.firstHearingNight();
        return docket.valueByGivingUp(now.writs, firstNight) == docket.valueByTryingSets(now.writs, firstNight);
    }

    private boolean blocksAgree() {
        till.fillTable(now.marble.store);
        for (int amount = 1; amount <= HIGHEST_BAIL; amount++) {
            if (till.fewestByTable(amount) != till.fewestBySearch(now.marble.store, amount)) {
                return false;
            }
        }
        return true;
    }

    private char faultOf(Command command, int first, int second, int third, int fourth) {
        switch (command) {
            case PEDESTAL:
                return trial.pedestalFault();
            case ARROW:
                return trial.arrowFault(first, second);
            case STATUE:
                return trial.statueFault(first, second);
            case HOME:
                return trial.homeFault(first, second);
            case WRIT:
                return fourth == NONE ? trial.writFault(first, second, third)
                        : trial.followerFault(first, second, third, fourth);
            case BLOCK:
                return trial.blockFault(first, second);
            case PAY:
                return trial.payFault(first, till);
            case HEAR:
                return trial.hearFault(first);
            default:
                return trial.nightFault(nightsOr1(first));
        }
    }

    private void carryOut(Command command, int first, int second, int third, int fourth) {
        switch (command) {
            case PEDESTAL:
                trial.plaza.putPedestal();
                break;
            case ARROW:
                trial.plaza.turnArrow(first, second);
                break;
            case STATUE:
                trial.plaza.putStatue(first, second);
                break;
            case HOME:
                trial.plaza.giveHome(first, second);
                break;
            case WRIT:
                trial.openWrit(first, second, third, fourth);
                break;
            case BLOCK:
                trial.marble.putBlocks(first, second);
                break;
            case PAY:
                trial.settleBail(first, till);
                break;
            case HEAR:
                trial.holdHearing(first);
                break;
            default:
                trial.letNightsPass(nightsOr1(first));
                break;
        }
    }

    private static int nightsOr1(int given) {
        return given == NONE ? 1 : given;
    }

    /** The pedestals with their arrows, and the statues that stand on them. */
    private static final class Plaza {
        private int pedestals = 0;
        private final int[] arrows = new int[MOST_PEDESTALS];
        private int statues = 0;
        private final int[] weights = new int[MOST_STATUES];
        private final int[] places = new int[MOST_STATUES];
        private final int[] homes = new int[MOST_STATUES];
        /** Kept in order by each new statue, because no weight changes later. */
        private final int[] heaviestFirst = new int[MOST_STATUES];

        void copyFrom(Plaza other) {
            pedestals = other.pedestals;
            System.arraycopy(other.arrows, 0, arrows, 0, MOST_PEDESTALS);
            statues = other.statues;
            System.arraycopy(other.weights, 0, weights, 0, MOST_STATUES);
            System.arraycopy(other.places, 0, places, 0, MOST_STATUES);
            System.arraycopy(other.homes, 0, homes, 0, MOST_STATUES);
            System.arraycopy(other.heaviestFirst, 0, heaviestFirst, 0, MOST_STATUES);
        }

        boolean hasPedestal(int pedestal) {
            return pedestal >= 0 && pedestal < pedestals;
        }

        boolean hasStatue(int statue) {
            return statue >= 0 && statue < statues;
        }

        int putPedestal() {
            int pedestal = pedestals;
            arrows[pedestal] = pedestal;
            pedestals++;
            return pedestal;
        }

        int turnArrow(int pedestal, int target) {
            int before = arrows[pedestal];
            arrows[pedestal] = target;
            return before;
        }

        int putStatue(int pedestal, int weight) {
            int statue = statues;
            weights[statue] = weight;
            places[statue] = pedestal;
            homes[statue] = pedestal;
            int rank = statue;
            for (; rank > 0 && weights[heaviestFirst[rank - 1]] < weight; rank--) {
                heaviestFirst[rank] = heaviestFirst[rank - 1];
            }
            heaviestFirst[rank] = statue;
            statues++;
            return statue;
        }

        int giveHome(int statue, int pedestal) {
            int before = homes[statue];
            homes[statue] = pedestal;
            return before;
        }

        int standingOn(int pedestal) {
            for (int statue = 0; statue < statues; statue++) {
                if (places[statue] == pedestal) {
                    return statue;
                }
            }
            return NONE;
        }

        boolean standsAtHome(int statue) {
            return places[statue] == homes[statue];
        }

        boolean moveIfFree(int statue, int pedestal) {
            boolean free = standingOn(pedestal) == NONE;
            if (free) {
                places[statue] = pedestal;
            }
            return free;
        }

        int followArrows(int pedestal, int steps) {
            int reached = pedestal;
            for (int step = 0; step < steps; step++) {
                reached = arrows[reached];
            }
            return reached;
        }

        int lengthOfRound(int pedestal) {
            int start = followArrows(pedestal, pedestals);
            int length = 1;
            for (int at = arrows[start]; at != start && length < pedestals; at = arrows[at]) {
                length++;
            }
            return length;
        }

        int weightOfAll() {
            int sum = 0;
            for (int statue = 0; statue < statues; statue++) {
                sum += weights[statue];
            }
            return sum;
        }

        int countAtHome() {
            int count = 0;
            for (int statue = 0; statue < statues; statue++) {
                if (standsAtHome(statue)) {
                    count++;
                }
            }
            return count;
        }

        boolean standApart() {
            for (int statue = 0; statue < statues; statue++) {
                if (standingOn(places[statue]) != statue) {
                    return false;
                }
            }
            return true;
        }
    }

    /** Follows arrows by 1, 2, 4 and so on steps at once. */
    private static final class Leaps {
        private final int[] reached = new int[MOST_PEDESTALS];
        private final int[] reachedTwice = new int[MOST_PEDESTALS];

        int followArrows(Plaza plaza, int pedestal, int steps) {
            System.arraycopy(plaza.arrows, 0, reached, 0, plaza.pedestals);
            int at = pedestal;
            for (int rest = steps; rest > 0; rest >>= 1) {
                if ((rest & 1) == 1) {
                    at = reached[at];
                }
                doubleLeaps(plaza.pedestals);
            }
            return at;
        }

        private void doubleLeaps(int pedestals) {
            for (int pedestal = 0; pedestal < pedestals; pedestal++) {
                reachedTwice[pedestal] = reached[reached[pedestal]];
            }
            System.arraycopy(reachedTwice, 0, reached, 0, pedestals);
        }
    }

    /** The open writs, in the order of their ids; a writ's cause stands before it. */
    private static final class Writs {
        private int count = 0;
        private int nextId = 0;
        private final int[] ids = new int[MOST_WRITS];
        private final int[] statues = new int[MOST_WRITS];
        private final int[] lastNights = new int[MOST_WRITS];
        private final int[] bails = new int[MOST_WRITS];
        private final int[] causes = new int[MOST_WRITS];
        private final boolean[] paid = new boolean[MOST_WRITS];

        void copyFrom(Writs other) {
            count = other.count;
            nextId = other.nextId;
            System.arraycopy(other.ids, 0, ids, 0, MOST_WRITS);
            System.arraycopy(other.statues, 0, statues, 0, MOST_WRITS);
            System.arraycopy(other.lastNights, 0, lastNights, 0, MOST_WRITS);
            System.arraycopy(other.bails, 0, bails, 0, MOST_WRITS);
            System.arraycopy(other.causes, 0, causes, 0, MOST_WRITS);
            for (int position = 0; position < count; position++) {
                paid[position] = other.paid[position];
            }
        }

        boolean isFull() {
            return count >= MOST_WRITS;
        }

        int find(int writ) {
            for (int position = 0; position < count; position++) {
                if (ids[position] == writ) {
                    return position;
                }
            }
            return NONE;
        }

        int open(int statue, int lastNight, int bail, int cause) {
            int writ = nextId;
            ids[count] = writ;
            statues[count] = statue;
            lastNights[count] = lastNight;
            bails[count] = bail;
            causes[count] = cause;
            paid[count] = false;
            count++;
            nextId++;
            return writ;
        }

        void close(int position) {
            int writ = ids[position];
            for (int at = position; at + 1 < count; at++) {
                ids[at] = ids[at + 1];
                statues[at] = statues[at + 1];
                lastNights[at] = lastNights[at + 1];
                bails[at] = bails[at + 1];
                causes[at] = causes[at + 1];
                paid[at] = paid[at + 1];
            }
            count--;
            dropCause(writ);
        }

        private void dropCause(int writ) {
            for (int position = 0; position < count; position++) {
                if (causes[position] == writ) {
                    causes[position] = NONE;
                }
            }
        }

        boolean bind(int statue) {
            for (int position = 0; position < count; position++) {
                if (statues[position] == statue && !paid[position]) {
                    return true;
                }
            }
            return false;
        }

        int countCauses(int position) {
            int depth = 0;
            int at = find(causes[position]);
            for (; at != NONE && depth < count; at = find(causes[at])) {
                depth++;
            }
            return depth;
        }

        /** Returns a bit for each position: one pass finds all, because causes stand before their followers. */
        int withFollowers(int position) {
            int found = 1 << position;
            for (int other = position + 1; other < count; other++) {
                int cause = find(causes[other]);
                if (cause != NONE && (found >> cause & 1) == 1) {
                    found |= 1 << other;
                }
            }
            return found;
        }
    }

    /** Ranks writs and finds the best docket in two ways. */
    private static final class Docket {
        private final int[] order = new int[MOST_WRITS];
        private final int[] taken = new int[MOST_WRITS];

        int positionAtRank(Writs writs, int rank) {
            sort(writs);
            return order[rank];
        }

        int valueByGivingUp(Writs writs, int firstNight) {
            sort(writs);
            int count = 0;
            int value = 0;
            for (int rank = 0; rank < writs.count; rank++) {
                int bail = writs.bails[order[rank]];
                taken[count] = bail;
                count++;
                value += bail;
                if (count > writs.lastNights[order[rank]] - firstNight + 1) {
                    count--;
                    value -= giveUpSmallest(count);
                }
            }
            return value;
        }

        /** Fills the gap of the smallest bail with the one at the last place, and returns the smallest. */
        private int giveUpSmallest(int last) {
            int smallest = last;
            for (int i = 0; i < last; i++) {
                if (taken[i] < taken[smallest]) {
                    smallest = i;
                }
            }
            int bail = taken[smallest];
            taken[smallest] = taken[last];
            return bail;
        }

        int valueByTryingSets(Writs writs, int firstNight) {
            sort(writs);
            int best = 0;
            for (int set = 0; set < 1 << writs.count; set++) {
                best = Math.max(best, valueOfSet(writs, firstNight, set));
            }
            return best;
        }

        /** A set that does not fit one night after the other, in the order of last nights, is worth 0. */
        private int valueOfSet(Writs writs, int firstNight, int set) {
            int nextNight = firstNight;
            int value = 0;
            for (int rank = 0; rank < writs.count; rank++) {
                int position = order[rank];
                if ((set >> position & 1) == 1) {
                    if (nextNight > writs.lastNights[position]) {
                        return 0;
                    }
                    nextNight++;
                    value += writs.bails[position];
                }
            }
            return value;
        }

        private void sort(Writs writs) {
            for (int position = 0; position < writs.count; position++) {
                int rank = position;
                for (; rank > 0 && comesBefore(writs, position, order[rank - 1]); rank--) {
                    order[rank] = order[rank - 1];
                }
                order[rank] = position;
            }
        }

        private static boolean comesBefore(Writs writs, int later, int earlier) {
            if (writs.lastNights[later] != writs.lastNights[earlier]) {
                return writs.lastNights[later] < writs.lastNights[earlier];
            }
            return writs.bails[later] > writs.bails[earlier];
        }
    }

    /** The blocks in the store, the treasury, and the account of all blocks that were added. */
    private static final class Marble {
        private final int[] store = new int[HEAVIEST_BLOCK + 1];
        private final int[] added = new int[HEAVIEST_BLOCK + 1];
        private int treasured = 0;

        void copyFrom(Marble other) {
            System.arraycopy(other.store, 0, store, 0, HEAVIEST_BLOCK + 1);
            System.arraycopy(other.added, 0, added, 0, HEAVIEST_BLOCK + 1);
            treasured = other.treasured;
        }

        int putBlocks(int weight, int count) {
            store[weight] += count;
            added[weight] += count;
            return store[weight];
        }

        void giveBack(int bail) {
            treasured -= bail;
            store[1] += bail;
        }

        int weightHeld() {
            return weightOfBlocks(store) + treasured;
        }

        int weightAdded() {
            return weightOfBlocks(added);
        }

        private static int weightOfBlocks(int[] blocks) {
            int sum = 0;
            for (int weight = 1; weight < blocks.length; weight++) {
                sum += weight * blocks[weight];
            }
            return sum;
        }
    }

    /** Finds the fewest blocks for an amount in two ways, and pays with them. */
    private static final class Till {
        /** The fewest blocks for an amount (second index) among those of at most a weight (first index). */
        private final int[][] fewest = new int[HEAVIEST_BLOCK + 1][HIGHEST_BAIL + 1];
        /** A bit for each amount that blocks of at most a weight add up to, so that the search has no dead ends. */
        private final long[] reachable = new long[HEAVIEST_BLOCK + 1];

        void fillTable(int[] store) {
            for (int amount = 0; amount <= HIGHEST_BAIL; amount++) {
                fewest[0][amount] = amount == 0 ? 0 : NO_WAY;
            }
            for (int weight = 1; weight <= HEAVIEST_BLOCK; weight++) {
                for (int amount = 0; amount <= HIGHEST_BAIL; amount++) {
                    fewest[weight][amount] = fewestWith(store, weight, amount);
                }
            }
        }

        private int fewestWith(int[] store, int weight, int amount) {
            int best = fewest[weight - 1][amount];
            int rest = amount - weight;
            for (int taken = 1; taken <= store[weight] && rest >= 0; taken++) {
                best = Math.min(best, fewest[weight - 1][rest] + taken);
                rest -= weight;
            }
            return best;
        }

        int fewestByTable(int amount) {
            return fewest[HEAVIEST_BLOCK][amount];
        }

        /** Takes the blocks from the store; expects the table to be filled for it and to have a way. */
        void takeBlocks(int[] store, int amount) {
            int rest = amount;
            for (int weight = HEAVIEST_BLOCK; weight > 0; weight--) {
                int taken = mostOnABestWay(store, weight, rest);
                store[weight] -= taken;
                rest -= taken * weight;
            }
        }

        private int mostOnABestWay(int[] store, int weight, int amount) {
            int taken = Math.min(store[weight], amount / weight);
            while (taken > 0 && fewest[weight - 1][amount - taken * weight] + taken != fewest[weight][amount]) {
                taken--;
            }
            return taken;
        }

        int fewestBySearch(int[] store, int amount) {
            markReachable(store);
            return search(store, reachable, HEAVIEST_BLOCK, amount, NO_WAY);
        }

        /** Bits above the highest bail may be lost or wrong, because none of them is asked for. */
        private void markReachable(int[] store) {
            reachable[0] = 1;
            for (int weight = 1; weight <= HEAVIEST_BLOCK; weight++) {
                int most = Math.min(store[weight], HIGHEST_BAIL / weight);
                reachable[weight] = reachable[weight - 1];
                for (int taken = 1; taken <= most; taken++) {
                    reachable[weight] |= reachable[weight - 1] << taken * weight;
                }
            }
        }

        /** Returns the fewest blocks of at most this weight for the rest, or NO_WAY unless they are below the limit. */
        private static int search(int[] store, long[] reachable, int weight, int rest, int limit) {
            if (weight < 0 || weight > HEAVIEST_BLOCK || (reachable[weight] >> rest & 1) == 0) {
                return NO_WAY;
            }
            if (weight == 0 || rest == 0) {
                return limit > 0 ? 0 : NO_WAY;
            }
            if ((rest + weight - 1) / weight >= limit) {
                return NO_WAY;
            }
            int best = NO_WAY;
            int bound = limit;
            for (int taken = Math.min(store[weight], rest / weight); taken >= 0; taken--) {
                int more = search(store, reachable, weight - 1, rest - taken * weight, bound - taken);
                if (more != NO_WAY) {
                    best = taken + more;
                    bound = best;
                }
            }
            return best;
        }
    }

    /** All that undo and the snapshot cover. A method whose name ends in Fault tells why a change is refused. */
    private static final class Realm {
        private final Plaza plaza = new Plaza();
        private final Writs writs = new Writs();
        private final Marble marble = new Marble();
        private int night = 0;
        private int hearingNight = NONE;
        private int upheld = 0;
        private int dismissed = 0;
        private int lapsed = 0;

        void copyFrom(Realm other) {
            plaza.copyFrom(other.plaza);
            writs.copyFrom(other.writs);
            marble.copyFrom(other.marble);
            night = other.night;
            hearingNight = other.hearingNight;
            upheld = other.upheld;
            dismissed = other.dismissed;
            lapsed = other.lapsed;
        }

        char pedestalFault() {
            return plaza.pedestals >= MOST_PEDESTALS ? WRONG_STATE : NO_FAULT;
        }

        char arrowFault(int pedestal, int target) {
            return plaza.hasPedestal(pedestal) && plaza.hasPedestal(target) ? NO_FAULT : OUT_OF_BOUNDS;
        }

        char statueFault(int pedestal, int weight) {
            if (!plaza.hasPedestal(pedestal)) {
                return OUT_OF_BOUNDS;
            }
            if (!isBetween(weight, 1, HEAVIEST_STATUE)) {
                return WRONG_ARGUMENT;
            }
            boolean hasRoom = plaza.statues < MOST_STATUES && plaza.standingOn(pedestal) == NONE;
            return hasRoom ? NO_FAULT : WRONG_STATE;
        }

        char homeFault(int statue, int pedestal) {
            return plaza.hasStatue(statue) && plaza.hasPedestal(pedestal) ? NO_FAULT : OUT_OF_BOUNDS;
        }

        char writFault(int statue, int nights, int bail) {
            char fault = writArgumentFault(statue, nights, bail);
            return fault == NO_FAULT && writs.isFull() ? WRONG_STATE : fault;
        }

        char followerFault(int statue, int nights, int bail, int cause) {
            char fault = writArgumentFault(statue, nights, bail);
            if (fault == NO_FAULT && writs.find(cause) == NONE) {
                return NO_SUCH_ELEMENT;
            }
            return fault == NO_FAULT && writs.isFull() ? WRONG_STATE : fault;
        }

        private char writArgumentFault(int statue, int nights, int bail) {
            if (!plaza.hasStatue(statue)) {
                return OUT_OF_BOUNDS;
            }
            boolean inRange = isBetween(nights, 0, LONGEST_WRIT) && isBetween(bail, 1, HIGHEST_BAIL);
            return inRange ? NO_FAULT : WRONG_ARGUMENT;
        }

        int openWrit(int statue, int nights, int bail, int cause) {
            return writs.open(statue, night + nights, bail, cause);
        }

        char blockFault(int weight, int count) {
            if (!isBetween(weight, 1, HEAVIEST_BLOCK) || !isBetween(count, 1, MOST_BLOCKS_AT_ONCE)) {
                return WRONG_ARGUMENT;
            }
            return marble.store[weight] + count > MOST_BLOCKS_OF_A_WEIGHT ? WRONG_STATE : NO_FAULT;
        }

        char payFault(int writ, Till till) {
            int position = writs.find(writ);
            if (position == NONE) {
                return NO_SUCH_ELEMENT;
            }
            if (writs.paid[position]) {
                return WRONG_STATE;
            }
            till.fillTable(marble.store);
            return till.fewestByTable(writs.bails[position]) == NO_WAY ? UNSUPPORTED : NO_FAULT;
        }

        int settleBail(int writ, Till till) {
            int position = writs.find(writ);
            if (position == NONE) {
                return 0;
            }
            int bail = writs.bails[position];
            till.fillTable(marble.store);
            till.takeBlocks(marble.store, bail);
            marble.treasured += bail;
            writs.paid[position] = true;
            return till.fewestByTable(bail);
        }

        char hearFault(int writ) {
            if (writs.find(writ) == NONE) {
                return NO_SUCH_ELEMENT;
            }
            return hearingNight == night ? WRONG_STATE : NO_FAULT;
        }

        char holdHearing(int writ) {
            int position = writs.find(writ);
            if (position == NONE) {
                return NO_FAULT;
            }
            hearingNight = night;
            int statue = writs.statues[position];
            if (plaza.standsAtHome(statue)) {
                dismissAll(writs.withFollowers(position));
                return DISMISSED;
            }
            plaza.moveIfFree(statue, plaza.homes[statue]);
            writs.close(position);
            upheld++;
            return UPHELD;
        }

        /** Goes backward, so that closing a writ shifts none that is still to be looked at. */
        private void dismissAll(int positions) {
            for (int position = writs.count - 1; position >= 0; position--) {
                if ((positions >> position & 1) == 1) {
                    closeWithoutFine(position);
                    dismissed++;
                }
            }
        }

        private void closeWithoutFine(int position) {
            if (writs.paid[position]) {
                marble.giveBack(writs.bails[position]);
            }
            writs.close(position);
        }

        int firstHearingNight() {
            return hearingNight == night ? night + 1 : night;
        }

        char nightFault(int nights) {
            return isBetween(nights, 1, MOST_NIGHTS_AT_ONCE) ? NO_FAULT : WRONG_ARGUMENT;
        }

        int letNightsPass(int nights) {
            int moves = 0;
            for (int passed = 0; passed < nights; passed++) {
                moves += letNightPass();
            }
            return moves;
        }

        private int letNightPass() {
            night++;
            for (int position = writs.count - 1; position >= 0; position--) {
                if (writs.lastNights[position] < night) {
                    closeWithoutFine(position);
                    lapsed++;
                }
            }
            return moveStatues();
        }

        private int moveStatues() {
            int moves = 0;
            for (int rank = 0; rank < plaza.statues; rank++) {
                int statue = plaza.heaviestFirst[rank];
                int target = plaza.arrows[plaza.places[statue]];
                if (!writs.bind(statue) && plaza.moveIfFree(statue, target)) {
                    moves++;
                }
            }
            return moves;
        }

        int nightsUntilAtHome(int statue) {
            for (int passed = 0; passed < MOST_NIGHTS_AT_ONCE; passed++) {
                if (plaza.standsAtHome(statue)) {
                    return passed;
                }
                letNightPass();
            }
            return plaza.standsAtHome(statue) ? MOST_NIGHTS_AT_ONCE : NONE;
        }
    }

    /** The realms before the latest changes, in a ring that is overwritten from its oldest on. */
    private static final class History {
        private final Realm[] before = new Realm[MOST_UNDOS];
        private int oldest = 0;
        private int count = 0;

        History() {
            for (int i = 0; i < MOST_UNDOS; i++) {
                before[i] = new Realm();
            }
        }

        void remember(Realm realm) {
            before[(oldest + count) % MOST_UNDOS].copyFrom(realm);
            if (count < MOST_UNDOS) {
                count++;
            } else {
                oldest = (oldest + 1) % MOST_UNDOS;
            }
        }

        int takeBack(Realm realm) {
            count--;
            realm.copyFrom(before[(oldest + count) % MOST_UNDOS]);
            return count;
        }

        void forget() {
            count = 0;
        }
    }

    /**
     * The commands of a script with their forms, where # stands for a digit, % for a number, and brackets for an
     * optional part, which stands at the end and begins with a sign that nothing else can begin with there.
     */
    private enum Command {
        PEDESTAL("pedestal"),
        ARROW("arrow ##"),
        STATUE("statue # %"),
        HOME("home ##"),
        WRIT("writ # % %[<%]"),
        BLOCK("block % #"),
        PAY("pay %"),
        HEAR("hear %"),
        NIGHT("night[ %]");

        private static final Command[] ALL = values();

        private final String form;

        Command(String form) {
            this.form = form;
        }
    }

    /** The script buffer, and the commands that were read from it. */
    private static final class Script {
        /** Reading ends at a 0 sign, which cannot be typed. */
        private static final char END = 0;
        /** The shortest command has 5 characters and a semicolon before the next one, which may be begun at the end. */
        private static final int MOST_COMMANDS = LONGEST_SCRIPT / 6 + 1;

        private final StringBuilder text = new StringBuilder();
        private final Command[] commands = new Command[MOST_COMMANDS];
        private final int[][] arguments = new int[MOST_COMMANDS][MOST_ARGUMENTS];
        private int count = 0;
        private int given = 0;
        private int position = 0;

        boolean isFull() {
            return text.length() >= LONGEST_SCRIPT;
        }

        int append(char character) {
            text.append(character);
            return text.length();
        }

        void clear() {
            text.setLength(0);
        }

        /** Returns whether the text has the form of a script; if not, position is its error position. */
        boolean read() {
            position = 0;
            count = 0;
            while (count < MOST_COMMANDS) {
                if (!readCommand()) {
                    return false;
                }
                count++;
                if (position == text.length()) {
                    return true;
                }
                if (!readSign(';')) {
                    return false;
                }
            }
            return false;
        }

        private boolean readCommand() {
            Command command = likeliestCommand();
            commands[count] = command;
            given = 0;
            for (int i = 0; i < MOST_ARGUMENTS; i++) {
                arguments[count][i] = NONE;
            }
            return readForm(command.form);
        }

        /** The command that goes along furthest: where it stops, all the others have stopped, too. */
        private Command likeliestCommand() {
            Command likeliest = Command.PEDESTAL;
            int furthest = 0;
            for (Command command : Command.ALL) {
                int length = commonLength(command.form);
                if (length > furthest) {
                    furthest = length;
                    likeliest = command;
                }
            }
            return likeliest;
        }

        private int commonLength(String form) {
            int length = 0;
            while (length < form.length() && form.charAt(length) == signAt(position + length)) {
                length++;
            }
            return length;
        }

        private boolean readForm(String form) {
            for (int i = 0; i < form.length(); i++) {
                char sign = form.charAt(i);
                if (sign == '[' && i + 1 < form.length()) {
                    if (signAt(position) != form.charAt(i + 1)) {
                        return true;
                    }
                } else if (sign != ']' && !readPart(sign)) {
                    return false;
                }
            }
            return true;
        }

        private boolean readPart(char sign) {
            switch (sign) {
                case '#':
                    return readNumber(1);
                case '%':
                    return readNumber(MOST_DIGITS);
                default:
                    return readSign(sign);
            }
        }

        private boolean readSign(char sign) {
            boolean stands = signAt(position) == sign;
            if (stands) {
                position++;
            }
            return stands;
        }

        private boolean readNumber(int mostDigits) {
            int number = 0;
            int digits = 0;
            while (digits < mostDigits && isBetween(signAt(position), '0', '9')) {
                number = number * 10 + signAt(position) - '0';
                position++;
                digits++;
            }
            if (digits == 0 || given >= MOST_ARGUMENTS) {
                return false;
            }
            arguments[count][given] = number;
            given++;
            return true;
        }

        private char signAt(int index) {
            return index >= 0 && index < text.length() ? text.charAt(index) : END;
        }
    }
}
