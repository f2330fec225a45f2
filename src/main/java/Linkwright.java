import java.util.ArrayList;
import java.util.Arrays;
import java.util.NoSuchElementException;

/** A shop of moving works; ../shared/DOC.md says what each call promises. */
public final class Linkwright {
    private static final int MOST_SHAFTS = 14;
    private static final int MOST_LINKS = 16;
    private static final int MOST_BEHIND = 3;
    private static final int MOST_CAMS = 8;
    private static final int MOST_DRUMS = 4;
    private static final int PARTS = 24;
    private static final int TRACKS = 8;
    private static final long MOST_PASSED = 100000;
    private static final int MOST_STEPS = 48;
    private static final int MOST_LIFE = 999;
    private static final int MOST_SLACK = 99;
    private static final int MOST_HEIGHT = 99;
    private static final int MOST_BOUND = 99;
    private static final int LEAST_TEETH = 6;
    private static final int MOST_TEETH = 30;
    private static final int MOST_BAR = 999;
    private static final int MOST_RATIO = 9999;
    private static final int NONE = -1;

    private static final char GEARS = 'g';
    private static final char INNER = 'i';
    private static final char GENEVA = 'v';
    private static final char RATCHET = 'r';
    private static final char CLUTCH = 'k';
    private static final char PLANETS = 'p';
    private static final char EVEN = 'u';
    private static final char SQUARES = 'p';

    private final ArrayList<Link> links = new ArrayList<Link>();
    private final ArrayList<Link> linksByLevel = new ArrayList<Link>();
    private final ArrayList<Cam> cams = new ArrayList<Cam>();
    private final ArrayList<Drum> drums = new ArrayList<Drum>();
    private final int[] driverOf = new int[MOST_SHAFTS];
    private final int[] levels = new int[MOST_SHAFTS];
    private final boolean[] reached = new boolean[MOST_SHAFTS];
    private final boolean[] blocked = new boolean[MOST_SHAFTS];
    private final FractionRow shares = new FractionRow(MOST_SHAFTS);
    private final FractionRow wear = new FractionRow(MOST_LINKS);
    private final Motion now = new Motion();
    private final Motion ahead = new Motion();
    private final Motion anew = new Motion();
    private int shaftCount;
    private int lastInput = NONE;
    private int lastSteps;

    public Linkwright() {
        Arrays.fill(driverOf, NONE);
    }

    // Shafts and links

    public int shaft() throws IllegalStateException {
        if (shaftCount >= MOST_SHAFTS) {
            throw new IllegalStateException("there are 14 shafts");
        }
        shaftCount++;
        return shaftCount - 1;
    }

    public int link(char kind, int from, int to, int a, int b)
            throws IndexOutOfBoundsException, IllegalArgumentException, UnsupportedOperationException,
                    IllegalStateException {
        checkShaft(from);
        checkShaft(to);
        if (!hasMeaning(kind, a, b)) {
            throw new IllegalArgumentException("no such kind, or a number is out of range");
        }
        if (from == to) {
            throw new UnsupportedOperationException("both shafts are the same");
        }
        return addLink(new Link(links.size(), kind, from, NONE, to, a, b));
    }

    public int planets(int sun, int ring, int to, int a, int b)
            throws IndexOutOfBoundsException, IllegalArgumentException, UnsupportedOperationException,
                    IllegalStateException {
        checkShaft(sun);
        checkShaft(ring);
        checkShaft(to);
        checkRange(a, LEAST_TEETH, MOST_TEETH);
        checkRange(b, LEAST_TEETH, MOST_TEETH);
        if (sun == ring || sun == to || ring == to) {
            throw new UnsupportedOperationException("two shafts are the same");
        }
        return addLink(new Link(links.size(), PLANETS, sun, ring, to, a, b));
    }

    public boolean engage(int link, boolean is) throws IndexOutOfBoundsException, UnsupportedOperationException {
        Link one = linkAt(link);
        if (one.kind != CLUTCH) {
            throw new UnsupportedOperationException("the link is no clutch");
        }
        boolean was = one.engaged;
        one.engaged = is;
        now.setActs(one, one.doesAct());
        return was;
    }

    public int life(int link, int turns) throws IndexOutOfBoundsException, IllegalArgumentException {
        Link one = linkAt(link);
        checkRange(turns, 0, MOST_LIFE);
        int before = one.turnsToLive;
        one.turnsToLive = turns;
        return before;
    }

    public int slack(int link, int thousandths) throws IndexOutOfBoundsException, IllegalArgumentException {
        Link one = linkAt(link);
        checkRange(thousandths, 0, MOST_SLACK);
        int before = one.ownSlack;
        one.ownSlack = thousandths;
        return before;
    }

    public int turn(int shaft, int steps)
            throws IndexOutOfBoundsException, IllegalArgumentException, UnsupportedOperationException {
        checkShaft(shaft);
        checkRange(steps, -MOST_STEPS, MOST_STEPS);
        if (driverOf[shaft] != NONE) {
            throw new UnsupportedOperationException("the shaft is driven");
        }
        ahead.copyFrom(now);
        lastInput = shaft;
        lastSteps = steps;
        for (int i = 0; i < Math.abs(steps); i++) {
            takeStep(now, shaft, steps < 0 ? -1 : 1);
            countWear();
            strikePins();
        }
        breakWornLinks();
        return countMoved();
    }

    public long placeOver(int shaft) throws IndexOutOfBoundsException {
        checkShaft(shaft);
        return now.place.overAt(shaft);
    }

    public long placeUnder(int shaft) throws IndexOutOfBoundsException {
        checkShaft(shaft);
        return now.place.underAt(shaft);
    }

    public long ratioOver(int shaft, int input) throws IndexOutOfBoundsException, UnsupportedOperationException {
        findRatios(shaft, input);
        return shares.overAt(shaft);
    }

    public long ratioUnder(int shaft, int input) throws IndexOutOfBoundsException, UnsupportedOperationException {
        findRatios(shaft, input);
        return shares.underAt(shaft);
    }

    public int driver(int shaft) throws IndexOutOfBoundsException, NoSuchElementException {
        checkShaft(shaft);
        if (driverOf[shaft] == NONE) {
            throw new NoSuchElementException("no link drives the shaft");
        }
        return driverOf[shaft];
    }

    public int freedom() {
        return shaftCount - countDriven();
    }

    public long wornOver(int link) throws IndexOutOfBoundsException {
        checkLink(link);
        return wear.overAt(link);
    }

    public long wornUnder(int link) throws IndexOutOfBoundsException {
        checkLink(link);
        return wear.underAt(link);
    }

    public boolean isBroken(int link) throws IndexOutOfBoundsException {
        return linkAt(link).broken;
    }

    public int repair(int link) throws IndexOutOfBoundsException, UnsupportedOperationException {
        Link one = linkAt(link);
        if (!one.broken) {
            throw new UnsupportedOperationException("the link is not broken");
        }
        one.broken = false;
        wear.put(link, 0, 1);
        now.begin(one);
        return countBroken();
    }

    public long slackOfOver(int shaft) throws IndexOutOfBoundsException {
        findSlacks(shaft);
        return shares.overAt(shaft);
    }

    public long slackOfUnder(int shaft) throws IndexOutOfBoundsException {
        findSlacks(shaft);
        return shares.underAt(shaft);
    }

    // Cams and wishes

    public int cam(int shaft) throws IndexOutOfBoundsException, IllegalStateException {
        checkShaft(shaft);
        if (cams.size() >= MOST_CAMS) {
            throw new IllegalStateException("there are 8 cams");
        }
        cams.add(new Cam(shaft));
        return cams.size() - 1;
    }

    public int segment(int cam, int parts, int height, char law)
            throws IndexOutOfBoundsException, IllegalArgumentException, UnsupportedOperationException {
        Cam one = camAt(cam);
        checkRange(parts, 1, PARTS);
        checkRange(height, 0, MOST_HEIGHT);
        checkLaw(law);
        if (one.partCount + parts > PARTS) {
            throw new UnsupportedOperationException("there would be more than 24 parts");
        }
        one.append(parts, height, law);
        return one.partCount;
    }

    public int clear(int cam) throws IndexOutOfBoundsException {
        Cam one = camAt(cam);
        int before = one.count;
        one.empty();
        return before;
    }

    public long heightOver(int cam) throws IndexOutOfBoundsException, UnsupportedOperationException {
        return heightNow(wholeCamAt(cam)).over;
    }

    public long heightUnder(int cam) throws IndexOutOfBoundsException, UnsupportedOperationException {
        return heightNow(wholeCamAt(cam)).under;
    }

    public long steepOver(int cam) throws IndexOutOfBoundsException, UnsupportedOperationException {
        return wholeCamAt(cam).steepest().over;
    }

    public long steepUnder(int cam) throws IndexOutOfBoundsException, UnsupportedOperationException {
        return wholeCamAt(cam).steepest().under;
    }

    public int wish(int cam, int part, int height) throws IndexOutOfBoundsException, IllegalArgumentException {
        Cam one = camAt(cam);
        checkRange(part, 0, PARTS - 1);
        checkRange(height, NONE, MOST_HEIGHT);
        one.wishes[part] = height;
        return one.countWishes();
    }

    public int make(int cam, char law, int bound)
            throws IndexOutOfBoundsException, IllegalArgumentException, NoSuchElementException,
                    UnsupportedOperationException {
        Cam one = camAt(cam);
        checkLaw(law);
        checkRange(bound, 1, MOST_BOUND);
        if (one.wishes[0] == NONE) {
            throw new NoSuchElementException("the part 0 is not wished");
        }
        if (one.areWishesSteeper(law, bound)) {
            throw new UnsupportedOperationException("the cam would be steeper");
        }
        one.followWishes(law);
        return one.count;
    }

    // Drums

    public int drum(int shaft) throws IndexOutOfBoundsException, IllegalStateException {
        checkShaft(shaft);
        if (drums.size() >= MOST_DRUMS) {
            throw new IllegalStateException("there are 4 drums");
        }
        drums.add(new Drum(shaft));
        return drums.size() - 1;
    }

    public boolean pin(int drum, int part, int track, boolean is)
            throws IndexOutOfBoundsException, IllegalArgumentException {
        Drum one = drumAt(drum);
        checkRange(part, 0, PARTS - 1);
        checkRange(track, 0, TRACKS - 1);
        return one.setPin(part, track, is);
    }

    public int struck(int drum, int track) throws IndexOutOfBoundsException, IllegalArgumentException {
        Drum one = drumAt(drum);
        checkRange(track, 0, TRACKS - 1);
        return one.strikes[track];
    }

    // Bars and teeth

    public char bars(int crank, int coupler, int follower, int ground) throws IllegalArgumentException {
        return barsOf(crank, coupler, follower, ground).letter();
    }

    public long limitOver(int crank, int coupler, int follower, int ground, boolean isOuter)
            throws IllegalArgumentException, NoSuchElementException {
        return thatExists(barsOf(crank, coupler, follower, ground).limit(isOuter)).over;
    }

    public long limitUnder(int crank, int coupler, int follower, int ground, boolean isOuter)
            throws IllegalArgumentException, NoSuchElementException {
        return thatExists(barsOf(crank, coupler, follower, ground).limit(isOuter)).under;
    }

    public long angleOver(int crank, int coupler, int follower, int ground, boolean isSum)
            throws IllegalArgumentException, NoSuchElementException {
        return thatExists(barsOf(crank, coupler, follower, ground).angle(isSum)).over;
    }

    public long angleUnder(int crank, int coupler, int follower, int ground, boolean isSum)
            throws IllegalArgumentException, NoSuchElementException {
        return thatExists(barsOf(crank, coupler, follower, ground).angle(isSum)).under;
    }

    public int teeth(int over, int under, boolean isFirst) throws IllegalArgumentException {
        checkRange(over, 1, MOST_RATIO);
        checkRange(under, 1, MOST_RATIO);
        int first = LEAST_TEETH;
        int second = LEAST_TEETH;
        for (int p = LEAST_TEETH; p <= MOST_TEETH; p++) {
            for (int q = LEAST_TEETH; q <= MOST_TEETH; q++) {
                if (isBetterPair(p, q, first, second, over, under)) {
                    first = p;
                    second = q;
                }
            }
        }
        return isFirst ? first : second;
    }

    public int pairs(int over, int under) throws IllegalArgumentException {
        checkRange(over, 1, MOST_RATIO);
        checkRange(under, 1, MOST_RATIO);
        int count = 0;
        for (int p = LEAST_TEETH; p <= MOST_TEETH; p++) {
            for (int q = LEAST_TEETH; q <= MOST_TEETH; q++) {
                if (p * under == q * over) {
                    count++;
                }
            }
        }
        return count;
    }

    // Sums over the works

    public long checksum() {
        long sum = 7;
        for (int i = 0; i < shaftCount; i++) {
            sum = 31 * sum + now.place.overAt(i);
            sum = 31 * sum + now.place.underAt(i);
        }
        for (int i = 0; i < drums.size(); i++) {
            Drum one = drums.get(i);
            for (int track = 0; track < TRACKS; track++) {
                sum = 31 * sum + one.strikes[track];
            }
        }
        return sum;
    }

    public float drivenShare() throws ArithmeticException {
        if (shaftCount == 0) {
            throw new ArithmeticException("there are no shafts");
        }
        return (float) countDriven() / (float) shaftCount;
    }

    public double meanWorn() throws ArithmeticException {
        if (links.isEmpty()) {
            throw new ArithmeticException("there are no links");
        }
        double sum = 0.0;
        for (int i = 0; i < links.size(); i++) {
            sum += (double) wear.overAt(i) / (double) wear.underAt(i);
        }
        return sum / (double) links.size();
    }

    public boolean isSound() {
        return isLastTurningSame() && areInputsWhole() && areLevelsFit(null) && areCamsClosed();
    }

    // Checks of arguments

    private void checkShaft(int number) {
        if (number < 0 || number >= shaftCount) {
            throw new IndexOutOfBoundsException("no such shaft");
        }
    }

    private void checkLink(int number) {
        if (number < 0 || number >= links.size()) {
            throw new IndexOutOfBoundsException("no such link");
        }
    }

    private Link linkAt(int number) {
        checkLink(number);
        return links.get(number);
    }

    private Cam camAt(int number) {
        if (number < 0 || number >= cams.size()) {
            throw new IndexOutOfBoundsException("no such cam");
        }
        return cams.get(number);
    }

    private Cam wholeCamAt(int number) {
        Cam one = camAt(number);
        if (!one.isWhole()) {
            throw new UnsupportedOperationException("the cam is not whole");
        }
        return one;
    }

    private Drum drumAt(int number) {
        if (number < 0 || number >= drums.size()) {
            throw new IndexOutOfBoundsException("no such drum");
        }
        return drums.get(number);
    }

    private static void checkRange(int number, int least, int most) {
        if (number < least || number > most) {
            throw new IllegalArgumentException("a number is out of range");
        }
    }

    private static void checkLaw(char law) {
        if (law != EVEN && law != SQUARES) {
            throw new IllegalArgumentException("no such law");
        }
    }

    private static boolean hasMeaning(char kind, int a, int b) {
        if (kind == GEARS || kind == INNER) {
            return isWithin(a, LEAST_TEETH, MOST_TEETH) && isWithin(b, LEAST_TEETH, MOST_TEETH);
        }
        if (kind == GENEVA) {
            return isWithin(a, 3, 12) && b == 0;
        }
        if (kind == RATCHET) {
            return isWithin(a, 3, 24) && b == 0;
        }
        return kind == CLUTCH && a == 0 && b == 0;
    }

    private static boolean isWithin(int number, int least, int most) {
        return number >= least && number <= most;
    }

    // How links hang together

    private int addLink(Link one) {
        if (driverOf[one.to] != NONE) {
            throw new UnsupportedOperationException("the shaft is driven");
        }
        if (!areLevelsFit(one)) {
            throw new UnsupportedOperationException("a shaft would be round, or too far behind");
        }
        if (links.size() >= MOST_LINKS) {
            throw new IllegalStateException("there are 16 links");
        }
        links.add(one);
        driverOf[one.to] = one.number;
        now.begin(one);
        sortLinks();
        return one.number;
    }

    /** Finds how far each shaft is behind the inputs; a round of links climbs over the limit too. */
    private boolean areLevelsFit(Link extra) {
        Arrays.fill(levels, 0);
        for (int pass = 0; pass <= MOST_BEHIND; pass++) {
            for (int i = 0; i < links.size(); i++) {
                raiseLevel(links.get(i));
            }
            if (extra != null) {
                raiseLevel(extra);
            }
        }
        for (int i = 0; i < shaftCount; i++) {
            if (levels[i] > MOST_BEHIND) {
                return false;
            }
        }
        return true;
    }

    private void raiseLevel(Link one) {
        int source = levels[one.first];
        if (one.hasSecond()) {
            source = Math.max(source, levels[one.second]);
        }
        levels[one.to] = source + 1;
    }

    /** Orders the links so that each stands behind those that drive its first shafts. */
    private void sortLinks() {
        linksByLevel.clear();
        for (int level = 1; level <= MOST_BEHIND; level++) {
            for (int i = 0; i < links.size(); i++) {
                Link one = links.get(i);
                if (levels[one.to] == level) {
                    linksByLevel.add(one);
                }
            }
        }
    }

    private int countDriven() {
        int count = 0;
        for (int i = 0; i < shaftCount; i++) {
            if (driverOf[i] != NONE) {
                count++;
            }
        }
        return count;
    }

    private int countBroken() {
        int count = 0;
        for (int i = 0; i < links.size(); i++) {
            if (links.get(i).broken) {
                count++;
            }
        }
        return count;
    }

    private void findRatios(int shaft, int input) {
        checkShaft(shaft);
        checkShaft(input);
        if (driverOf[input] != NONE) {
            throw new UnsupportedOperationException("the other shaft is no input");
        }
        shares.reset();
        shares.put(input, 1, 1);
        for (int i = 0; i < MOST_SHAFTS; i++) {
            reached[i] = i == input;
            blocked[i] = false;
        }
        for (int i = 0; i < linksByLevel.size(); i++) {
            spread(linksByLevel.get(i));
        }
        if (blocked[shaft]) {
            throw new UnsupportedOperationException("a geneva or ratchet is on a way");
        }
    }

    private void spread(Link one) {
        reached[one.to] = reached[one.first] || one.hasSecond() && reached[one.second];
        blocked[one.to] = blocked[one.first] || one.hasSecond() && blocked[one.second]
                || reached[one.to] && one.isJerky() && !one.broken;
        if (one.doesAct()) {
            one.carry(shares, one.over());
        }
    }

    private void findSlacks(int shaft) {
        checkShaft(shaft);
        shares.reset();
        for (int i = 0; i < linksByLevel.size(); i++) {
            Link one = linksByLevel.get(i);
            shares.put(one.to, one.ownSlack, 1);
            one.carry(shares, Math.abs(one.over()));
        }
    }

    // Turning

    private void takeStep(Motion motion, int input, int way) {
        motion.turnInput(input, way);
        for (int i = 0; i < linksByLevel.size(); i++) {
            motion.follow(linksByLevel.get(i));
        }
    }

    private void countWear() {
        for (int i = 0; i < links.size(); i++) {
            Link one = links.get(i);
            if (now.doesAct(one)) {
                wearBy(i, one.first);
                wearBy(i, one.second);
            }
        }
    }

    private void wearBy(int link, int shaft) {
        if (now.turned.isMoving(shaft)) {
            wear.add(link, Math.abs(now.turned.overAt(shaft)), now.turned.underAt(shaft));
        }
    }

    private void strikePins() {
        for (int i = 0; i < drums.size(); i++) {
            Drum one = drums.get(i);
            if (now.turned.isMoving(one.shaft)) {
                one.pass(now.before.wholeTimes(one.shaft, PARTS), now.place.wholeTimes(one.shaft, PARTS));
            }
        }
    }

    private void breakWornLinks() {
        for (int i = 0; i < links.size(); i++) {
            Link one = links.get(i);
            if (one.turnsToLive > 0 && wear.overAt(i) > one.turnsToLive * wear.underAt(i)) {
                one.broken = true;
                now.setActs(one, false);
            }
        }
    }

    private int countMoved() {
        int count = 0;
        for (int i = 0; i < shaftCount; i++) {
            if (!now.place.isSame(i, ahead.place)) {
                count++;
            }
        }
        return count;
    }

    // Soundness

    private boolean isLastTurningSame() {
        if (lastInput == NONE) {
            return true;
        }
        anew.copyFrom(ahead);
        for (int i = 0; i < Math.abs(lastSteps); i++) {
            takeStep(anew, lastInput, lastSteps < 0 ? -1 : 1);
        }
        for (int i = 0; i < shaftCount; i++) {
            if (!anew.place.isSame(i, now.place)) {
                return false;
            }
        }
        return true;
    }

    private boolean areInputsWhole() {
        for (int i = 0; i < shaftCount; i++) {
            if (driverOf[i] == NONE && !now.place.isWholeTimes(i, PARTS)) {
                return false;
            }
        }
        return true;
    }

    private boolean areCamsClosed() {
        for (int i = 0; i < cams.size(); i++) {
            Cam one = cams.get(i);
            if (one.isWhole() && !one.heightAt(PARTS).isSame(one.heightAt(0))) {
                return false;
            }
        }
        return true;
    }

    // Cams, bars and teeth

    private Fraction heightNow(Cam one) {
        return one.heightAt((int) Math.floorMod(now.place.wholeTimes(one.shaft, PARTS), (long) PARTS));
    }

    private static Bars barsOf(int crank, int coupler, int follower, int ground) {
        checkRange(crank, 1, MOST_BAR);
        checkRange(coupler, 1, MOST_BAR);
        checkRange(follower, 1, MOST_BAR);
        checkRange(ground, 1, MOST_BAR);
        return new Bars(crank, coupler, follower, ground);
    }

    private static Fraction thatExists(Fraction cosine) {
        if (cosine == null) {
            throw new NoSuchElementException("there is no such triangle");
        }
        return cosine;
    }

    private static boolean isBetterPair(int p, int q, int first, int second, int over, int under) {
        long far = Math.abs((long) p * under - (long) over * q) * second;
        long farBefore = Math.abs((long) first * under - (long) over * second) * q;
        if (far != farBefore) {
            return far < farBefore;
        }
        if (p + q != first + second) {
            return p + q < first + second;
        }
        return p < first;
    }

    /** A fraction in lowest terms, with a lower number above 0. */
    private static final class Fraction {
        final long over;
        final long under;

        Fraction(long over, long under) {
            long common = commonOf(over, under);
            this.over = common == 0 ? 0 : over / common;
            this.under = common == 0 ? 1 : under / common;
        }

        boolean isSame(Fraction other) {
            return over == other.over && under == other.under;
        }

        static long commonOf(long a, long b) {
            long greater = a < 0 ? -a : a;
            long lesser = b < 0 ? -b : b;
            for (int i = 0; i < 200 && lesser != 0; i++) {
                long rest = greater % lesser;
                greater = lesser;
                lesser = rest;
            }
            return greater;
        }
    }

    /** A row of fractions in lowest terms, kept in place so that turning makes no objects. */
    private static final class FractionRow {
        private final long[] overs;
        private final long[] unders;

        FractionRow(int size) {
            overs = new long[size];
            unders = new long[size];
            Arrays.fill(unders, 1L);
        }

        private boolean has(int at) {
            return at >= 0 && at < overs.length;
        }

        long overAt(int at) {
            return has(at) ? overs[at] : 0;
        }

        long underAt(int at) {
            return has(at) ? unders[at] : 1;
        }

        boolean isMoving(int at) {
            return overAt(at) != 0;
        }

        boolean isSame(int at, FractionRow other) {
            return overAt(at) == other.overAt(at) && underAt(at) == other.underAt(at);
        }

        void reset() {
            Arrays.fill(overs, 0L);
            Arrays.fill(unders, 1L);
        }

        void copyFrom(FractionRow other) {
            int size = Math.min(overs.length, other.overs.length);
            System.arraycopy(other.overs, 0, overs, 0, size);
            System.arraycopy(other.unders, 0, unders, 0, size);
        }

        void put(int at, long over, long under) {
            long common = Fraction.commonOf(over, under);
            if (has(at) && under > 0 && common > 0) {
                overs[at] = over / common;
                unders[at] = under / common;
            }
        }

        // Only the parts that the lower numbers do not share are multiplied: their whole product would be too great.
        void add(int at, long over, long under) {
            if (!has(at) || under <= 0) {
                return;
            }
            long shared = Fraction.commonOf(unders[at], under);
            if (shared <= 0) {
                return;
            }
            long mine = unders[at] / shared;
            long sum = overs[at] * (under / shared) + over * mine;
            long whole = mine * under;
            long common = Fraction.commonOf(sum, whole);
            if (common > 0) {
                overs[at] = sum / common;
                unders[at] = whole / common;
            }
        }

        boolean isWholeTimes(int at, long times) {
            long under = underAt(at);
            return under > 0 && overAt(at) * times % under == 0;
        }

        /** Answers so many times a fraction, rounded down. */
        long wholeTimes(int at, long times) {
            if (!has(at) || unders[at] <= 0) {
                return 0;
            }
            long rest = Math.floorMod(overs[at], unders[at]);
            return Math.floorDiv(overs[at], unders[at]) * times + Math.floorDiv(rest * times, unders[at]);
        }
    }

    /** A link of shafts; the second shaft is the ring of planets. */
    private static final class Link {
        final int number;
        final char kind;
        final int first;
        final int second;
        final int to;
        final int a;
        final int b;
        boolean engaged = true;
        boolean broken;
        int turnsToLive;
        int ownSlack;

        Link(int number, char kind, int first, int second, int to, int a, int b) {
            this.number = number;
            this.kind = kind;
            this.first = first;
            this.second = second;
            this.to = to;
            this.a = a;
            this.b = b;
        }

        boolean hasSecond() {
            return second >= 0;
        }

        boolean doesAct() {
            return engaged && !broken;
        }

        boolean isJerky() {
            return kind == GENEVA || kind == RATCHET;
        }

        /** How much the driven shaft turns of one turn of the first one: over() divided by under(). */
        int over() {
            if (kind == GEARS) {
                return -a;
            }
            return kind == INNER || kind == PLANETS ? a : 1;
        }

        int under() {
            if (kind == GEARS || kind == INNER) {
                return b;
            }
            if (kind == PLANETS) {
                return a + b;
            }
            return kind == GENEVA ? a : 1;
        }

        /** Adds to the row at the driven shaft its share of what stands there at the first ones. */
        void carry(FractionRow row, int over) {
            row.add(to, row.overAt(first) * over, row.underAt(first) * under());
            if (hasSecond()) {
                row.add(to, row.overAt(second) * b, row.underAt(second) * under());
            }
        }
    }

    /** Where the shafts stand, and what a step turned of them; a turning is done anew on one of its own. */
    private static final class Motion {
        final FractionRow place = new FractionRow(MOST_SHAFTS);
        final FractionRow before = new FractionRow(MOST_SHAFTS);
        final FractionRow turned = new FractionRow(MOST_SHAFTS);
        final long[] marks = new long[MOST_LINKS];
        final boolean[] acts = new boolean[MOST_LINKS];

        void copyFrom(Motion other) {
            place.copyFrom(other.place);
            for (int i = 0; i < MOST_LINKS; i++) {
                marks[i] = other.marks[i];
                acts[i] = other.acts[i];
            }
        }

        private static boolean has(Link one) {
            return one.number >= 0 && one.number < MOST_LINKS;
        }

        boolean doesAct(Link one) {
            return has(one) && acts[one.number];
        }

        void setActs(Link one, boolean is) {
            if (has(one)) {
                acts[one.number] = is;
            }
        }

        /** Lets a link act from here on: a ratchet turns only as it comes farther than it is now. */
        void begin(Link one) {
            if (has(one)) {
                acts[one.number] = one.doesAct();
                marks[one.number] = place.wholeTimes(one.first, one.a);
            }
        }

        void turnInput(int input, int way) {
            before.copyFrom(place);
            turned.reset();
            turned.put(input, way, PARTS);
            place.add(input, way, PARTS);
        }

        void follow(Link one) {
            if (!doesAct(one) || !turned.isMoving(one.first) && !turned.isMoving(one.second)) {
                return;
            }
            if (one.kind == GENEVA) {
                turned.put(one.to, place.wholeTimes(one.first, 1) - before.wholeTimes(one.first, 1), one.a);
            } else if (one.kind == RATCHET) {
                followRatchet(one);
            } else {
                one.carry(turned, one.over());
            }
            place.add(one.to, turned.overAt(one.to), turned.underAt(one.to));
        }

        private void followRatchet(Link one) {
            long reached = place.wholeTimes(one.first, one.a);
            if (has(one) && reached > marks[one.number]) {
                turned.put(one.to, reached - marks[one.number], one.a);
                marks[one.number] = reached;
            }
        }
    }

    /** A cam on a shaft, of segments, with the heights that are wished for it. */
    private static final class Cam {
        final int shaft;
        final int[] lengths = new int[PARTS];
        final int[] goals = new int[PARTS];
        final char[] laws = new char[PARTS];
        final int[] wishes = new int[PARTS];
        int count;
        int partCount;

        Cam(int shaft) {
            this.shaft = shaft;
            Arrays.fill(wishes, NONE);
        }

        boolean isWhole() {
            return partCount == PARTS;
        }

        void empty() {
            count = 0;
            partCount = 0;
        }

        void append(int parts, int height, char law) {
            if (count < PARTS) {
                lengths[count] = parts;
                goals[count] = height;
                laws[count] = law;
                count++;
                partCount += parts;
            }
        }

        private int startOf(int number) {
            int previous = number == 0 ? count - 1 : number - 1;
            return previous >= 0 && previous < PARTS ? goals[previous] : 0;
        }

        /** Answers the height at a part; the part 24 is the end of the last segment. */
        Fraction heightAt(int part) {
            int behind = part;
            for (int i = 0; i < count; i++) {
                if (behind < lengths[i] || i == count - 1) {
                    return heightWithin(i, behind);
                }
                behind -= lengths[i];
            }
            return new Fraction(0, 1);
        }

        private Fraction heightWithin(int number, int behind) {
            long start = startOf(number);
            long rise = goals[number] - start;
            long parts = lengths[number];
            if (laws[number] == EVEN) {
                return new Fraction(start * parts + rise * behind, parts);
            }
            long all = parts * parts;
            long left = parts - behind;
            long gone = 2 * behind <= parts ? 2L * behind * behind : all - 2 * left * left;
            return new Fraction(start * all + rise * gone, all);
        }

        Fraction steepest() {
            long over = 0;
            long under = 1;
            for (int i = 0; i < count; i++) {
                long rise = steepRise(startOf(i), goals[i], laws[i]);
                if (rise * under > over * lengths[i]) {
                    over = rise;
                    under = lengths[i];
                }
            }
            return new Fraction(over, under);
        }

        private static int steepRise(int from, int to, char law) {
            int rise = Math.abs(to - from);
            return law == SQUARES ? 2 * rise : rise;
        }

        int countWishes() {
            int found = 0;
            for (int i = 0; i < PARTS; i++) {
                if (wishes[i] != NONE) {
                    found++;
                }
            }
            return found;
        }

        private int nextWished(int part) {
            for (int i = part + 1; i < PARTS; i++) {
                if (wishes[i] != NONE) {
                    return i;
                }
            }
            return PARTS;
        }

        private int wishedRound(int part) {
            return wishes[part < PARTS ? part : 0];
        }

        boolean areWishesSteeper(char law, int bound) {
            for (int part = 0; part < PARTS; part++) {
                if (wishes[part] != NONE) {
                    int next = nextWished(part);
                    if (steepRise(wishes[part], wishedRound(next), law) > bound * (next - part)) {
                        return true;
                    }
                }
            }
            return false;
        }

        void followWishes(char law) {
            empty();
            for (int part = 0; part < PARTS; part++) {
                if (wishes[part] != NONE) {
                    int next = nextWished(part);
                    append(next - part, wishedRound(next), law);
                }
            }
        }
    }

    /** A drum on a shaft: for each part a mask of the tracks with a pin, and how often each track was struck. */
    private static final class Drum {
        final int shaft;
        final int[] pins = new int[PARTS];
        final int[] strikes = new int[TRACKS];

        Drum(int shaft) {
            this.shaft = shaft;
        }

        boolean setPin(int part, int track, boolean is) {
            int bit = 1 << track;
            boolean was = (pins[part] & bit) != 0;
            pins[part] = is ? pins[part] | bit : pins[part] & ~bit;
            return was;
        }

        /** Strikes the pins of each number gone up to, or down from. */
        void pass(long from, long to) {
            long first = Math.min(from, to);
            long count = Math.min(Math.max(from, to) - first, MOST_PASSED);
            for (long i = 1; i <= count; i++) {
                strikePart((int) Math.floorMod(first + i, (long) PARTS));
            }
        }

        private void strikePart(int part) {
            for (int track = 0; track < TRACKS; track++) {
                if ((pins[part] & 1 << track) != 0) {
                    strikes[track]++;
                }
            }
        }
    }

    /** Four bars, and the triangles that they make as two of them are in line. */
    private static final class Bars {
        final int crank;
        final int coupler;
        final int follower;
        final int ground;

        Bars(int crank, int coupler, int follower, int ground) {
            this.crank = crank;
            this.coupler = coupler;
            this.follower = follower;
            this.ground = ground;
        }

        char letter() {
            int longest = Math.max(Math.max(crank, coupler), Math.max(follower, ground));
            int shortest = Math.min(Math.min(crank, coupler), Math.min(follower, ground));
            int all = crank + coupler + follower + ground;
            int both = longest + shortest;
            if (longest >= all - longest) {
                return 'x';
            }
            if (both != all - both) {
                return both < all - both ? letterOf(shortest) : 't';
            }
            return 'e';
        }

        private char letterOf(int shortest) {
            if (crank == shortest) {
                return 'c';
            }
            if (follower == shortest) {
                return 'r';
            }
            return ground == shortest ? 'd' : 'o';
        }

        Fraction limit(boolean isOuter) {
            return cosine(follower, ground, isOuter ? crank + coupler : Math.abs(crank - coupler));
        }

        Fraction angle(boolean isSum) {
            return cosine(coupler, follower, isSum ? crank + ground : Math.abs(crank - ground));
        }

        /** Answers the cosine of the angle opposite to the third side, or null if there is no such triangle. */
        private static Fraction cosine(long one, long other, long opposite) {
            if (opposite <= 0 || opposite >= one + other || opposite <= Math.abs(one - other)) {
                return null;
            }
            return new Fraction(one * one + other * other - opposite * opposite, 2 * one * other);
        }
    }
}
