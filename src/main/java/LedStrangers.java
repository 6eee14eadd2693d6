import java.util.Arrays;
import java.util.NoSuchElementException;

/**
 * A town told as a text, whose people lead strangers that ask them.
 *
 * <p>All rows are made in constructors and used again by every call: a long run of calls makes no
 * further objects.
 */
public final class LedStrangers {
    public static final int NONE = -1;

    private static final int MOST_BYTES = 600;
    private static final int BYTES_FED = 20;
    private static final int MOST_CLAUSES = 60;
    private static final int MOST_PLACES = 12;
    private static final int PLACES_UNTOLD = 4;
    private static final int MOST_STREETS = 20;
    private static final int MOST_STREET_MINUTES = 60;
    private static final int MOST_PEOPLE = 10;
    private static final int MOST_STRANGERS = 8;
    private static final int MOST_GUIDES = 4;
    private static final int MOST_GUIDES_ADDED = 2;
    private static final int MOST_WORTH = 99;
    private static final int LATEST_START = 500;
    private static final int LAST_MINUTE = 999;
    private static final int MOST_FEE = 9;
    private static final int MOST_LAW = 9;
    private static final int MOST_HANDINGS = 2;
    private static final int MOST_IMAGES = 3;
    private static final int MOST_LEARNING_DAYS = 99;
    private static final int MOST_SEEDS = 99;
    private static final int SURE_CHANCE = 8;

    /** Above every minute and every distance of a town, and far from an int's end when added up. */
    private static final int NEVER = 1_000_000;

    /** Above every cost of a town. */
    private static final int NO_COST_YET = 2_000_000_000;

    /** Leaders from here on are guides. */
    private static final int GUIDE_BASE = 100;

    private static final int FIRST = 0;
    private static final int CHOOSE = 1;
    private static final int GATE = 2;
    private static final int HALF = 3;
    private static final int TOLD = 4;
    private static final int KINDS = 5;

    private final byte[] tape = new byte[MOST_BYTES];
    private int taped = 0;
    private int faultPlace = NONE;

    /** A text is read into the spare town, so that a fault leaves the town as it was. */
    private Town town = new Town();
    private Town spare = new Town();

    private final int[] toldPeople = new int[MOST_STRANGERS];
    private final int[][] images = new int[MOST_IMAGES][MOST_STRANGERS];
    private int imageCount = 0;

    private final Reader reader = new Reader();
    private final Setting setting = new Setting();
    private final Course course = new Course(town, setting);
    private final Pairing pairing = new Pairing();
    private final Handing handing = new Handing(town);
    private final Learning learning = new Learning();
    private final int[] detour = new int[MOST_PLACES];

    public LedStrangers() {
        Arrays.fill(toldPeople, NONE);
        town.clear();
        town.streets.findWays();
    }

    // ---- the text and the town

    public int feed(int a, int b, int c, int d, int e) {
        if (taped + BYTES_FED > MOST_BYTES) {
            return NONE;
        }
        putOnTape(a);
        putOnTape(b);
        putOnTape(c);
        putOnTape(d);
        putOnTape(e);
        return taped;
    }

    private void putOnTape(int number) {
        for (int shift = 24; shift >= 0; shift -= 8) {
            tape[taped] = (byte) (number >>> shift);
            taped++;
        }
    }

    public int town(int n) throws IllegalArgumentException {
        if (n < 0 || n > taped) {
            throw new IllegalArgumentException("not so many bytes on the tape");
        }
        taped = 0;
        reader.read(tape, n, spare);
        faultPlace = reader.faultPlace;
        if (reader.faultKind != 0) {
            return reader.faultKind - 10;
        }
        Town read = spare;
        spare = town;
        town = read;
        town.streets.findWays();
        Arrays.fill(toldPeople, NONE);
        imageCount = 0;
        return town.people;
    }

    public int fault() {
        return faultPlace;
    }

    public int told(int what) throws IllegalArgumentException {
        switch (what) {
            case 0:
                return town.streets.places;
            case 1:
                return town.people;
            case 2:
                return town.strangers;
            case 3:
                return town.guides;
            case 4:
                return town.law;
            default:
                throw new IllegalArgumentException("no such what");
        }
    }

    public int far(int from, int to) throws IndexOutOfBoundsException {
        checkPlace(from);
        checkPlace(to);
        return town.streets.reaches(from, to) ? town.streets.minutes[from][to] : NONE;
    }

    public int way(int from, int to, int i) throws IndexOutOfBoundsException {
        checkPlace(from);
        checkPlace(to);
        if (i < 0 || i >= MOST_PLACES || !town.streets.reaches(from, to)) {
            return NONE;
        }
        int place = from;
        for (int k = 0; k < i; k++) {
            if (place == to) {
                return NONE;
            }
            place = town.streets.step[place][to];
        }
        return place;
    }

    public int person(int person, int what) throws NoSuchElementException, IllegalArgumentException {
        checkPerson(person);
        switch (what) {
            case 0:
                return town.home[person];
            case 1:
                return town.errand[person];
            case 2:
                return town.leaves[person];
            case 3:
                return town.worth[person];
            case 4:
                return town.knows[person];
            case 5:
                return town.goes(person) ? town.arrival(person) : NONE;
            default:
                throw new IllegalArgumentException("no such what");
        }
    }

    public int stranger(int stranger, int what) throws NoSuchElementException, IllegalArgumentException {
        checkStranger(stranger);
        switch (what) {
            case 0:
                return town.comesTo[stranger];
            case 1:
                return town.goal[stranger];
            case 2:
                return town.comesAt[stranger];
            case 3:
                return town.chance[stranger];
            case 4:
                return town.finds[stranger];
            default:
                throw new IllegalArgumentException("no such what");
        }
    }

    public int tell(int stranger, int person) throws NoSuchElementException, IllegalArgumentException {
        checkStranger(stranger);
        if (person != NONE && (person < 0 || person >= town.people)) {
            throw new IllegalArgumentException("no such person");
        }
        int before = toldPeople[stranger];
        toldPeople[stranger] = person;
        return before;
    }

    // ---- a day

    public int day(int kind, int what) throws IllegalArgumentException {
        checkKind(kind);
        checkBelow(what, 5);
        goThrough(kind);
        switch (what) {
            case 0:
                return course.cost();
            case 1:
                return course.leftCount();
            case 2:
                return course.waited;
            case 3:
                return course.leadings;
            default:
                return course.arrivedBy(LAST_MINUTE);
        }
    }

    public int leads(int kind, int stranger, int i) throws NoSuchElementException, IllegalArgumentException {
        checkStranger(stranger);
        checkKind(kind);
        goThrough(kind);
        return i < 0 || i >= course.leaderCount[stranger] ? NONE : course.leaders[stranger][i];
    }

    public int there(int kind, int stranger) throws NoSuchElementException, IllegalArgumentException {
        checkStranger(stranger);
        checkKind(kind);
        goThrough(kind);
        return course.thereAt[stranger];
    }

    public int lost(int kind, int person) throws NoSuchElementException, IllegalArgumentException {
        checkPerson(person);
        checkKind(kind);
        goThrough(kind);
        return course.lostBy(person);
    }

    public int fees(int kind) throws IllegalArgumentException {
        checkKind(kind);
        goThrough(kind);
        return course.paid;
    }

    public int judge(int what) throws IllegalArgumentException {
        checkBelow(what, 2);
        goThrough(TOLD);
        for (int s = 0; s < town.strangers; s++) {
            boolean fails = what == 0 ? course.isLeft(s) : toldPeople[s] != NONE && !course.isLedBy(s, toldPeople[s]);
            if (fails) {
                return s;
            }
        }
        return NONE;
    }

    // ---- who should ask whom, and handing on

    public int match(int what) throws IllegalArgumentException {
        checkBelow(what, 2);
        pairing.pair(town);
        return what == 0 ? pairing.led : pairing.lostInAll;
    }

    public int matched(int stranger) throws NoSuchElementException {
        checkStranger(stranger);
        pairing.pair(town);
        return pairing.leader[stranger];
    }

    public int bound() {
        return pairing.leastTogether(town);
    }

    public int hand(int stranger, int h, int what) throws NoSuchElementException, IllegalArgumentException {
        checkStranger(stranger);
        if (h < 0 || h > MOST_HANDINGS) {
            throw new IllegalArgumentException("no such number of times handed on");
        }
        checkBelow(what, 2);
        handing.find(town, stranger, h);
        if (handing.leastMinute == NEVER) {
            return NONE;
        }
        return what == 0 ? handing.leastLost : handing.leastMinute;
    }

    // ---- other towns

    public int saves(int place) throws IndexOutOfBoundsException {
        checkPlace(place);
        return costByFirst() - costWithSign(place);
    }

    public int which() {
        int best = 0;
        int bestCost = costWithSign(0);
        for (int place = 1; place < town.streets.places; place++) {
            int cost = costWithSign(place);
            if (cost < bestCost) {
                best = place;
                bestCost = cost;
            }
        }
        return best;
    }

    public int where(int fee, int what) throws IllegalArgumentException {
        checkFee(fee);
        checkBelow(what, 2);
        int best = 0;
        int bestCost = costWithGuide(0, fee);
        for (int place = 1; place < town.streets.places; place++) {
            int cost = costWithGuide(place, fee);
            if (cost < bestCost) {
                best = place;
                bestCost = cost;
            }
        }
        return what == 0 ? best : bestCost;
    }

    public int many(int fee, int what) throws IllegalArgumentException {
        checkFee(fee);
        checkBelow(what, 2);
        int noneCost = costByFirst();
        int oneCost = NO_COST_YET;
        int twoCost = NO_COST_YET;
        for (int one = 0; one < town.streets.places; one++) {
            oneCost = Math.min(oneCost, costWithGuide(one, fee));
            for (int two = one; two < town.streets.places; two++) {
                twoCost = Math.min(twoCost, costWithTwoGuides(one, two, fee));
            }
        }
        int least = Math.min(noneCost, Math.min(oneCost, twoCost));
        if (what == 1) {
            return least;
        }
        return noneCost == least ? 0 : oneCost == least ? 1 : 2;
    }

    public int corner(int l) throws IllegalArgumentException {
        if (l < 0 || l > MOST_LAW) {
            throw new IllegalArgumentException("no such law");
        }
        return costWithLaw(l);
    }

    public int other() {
        int best = 0;
        int bestCost = costWithLaw(0);
        for (int law = 1; law <= MOST_LAW; law++) {
            int cost = costWithLaw(law);
            if (cost < bestCost) {
                best = law;
                bestCost = cost;
            }
        }
        return best;
    }

    public int rest(int person) throws NoSuchElementException {
        checkPerson(person);
        goThrough(FIRST);
        int othersBefore = course.cost() - course.lostBy(person);
        setting.resting = person;
        course.run(town, setting, FIRST);
        return othersBefore - course.cost();
    }

    public int avoid(int person) throws NoSuchElementException {
        checkPerson(person);
        int blocked = 0;
        for (int s = 0; s < town.strangers; s++) {
            blocked |= 1 << town.comesTo[s];
        }
        int least = town.streets.minutesRound(town.home[person], town.errand[person], blocked, detour);
        return least < NEVER ? least : NONE;
    }

    // ---- learning

    public int learn(int days) throws IllegalArgumentException {
        if (days < 0 || days > MOST_LEARNING_DAYS) {
            throw new IllegalArgumentException("no such number of days");
        }
        learning.begin(town);
        for (int d = 0; d < days; d++) {
            learning.goOneDay();
        }
        return learning.knownTogether();
    }

    public int soon() {
        learning.begin(town);
        // Each day on which anything changes teaches one place at least.
        for (int d = 0; d <= MOST_PEOPLE * MOST_PLACES; d++) {
            if (learning.allKnowAll()) {
                return d;
            }
            if (!learning.goOneDay()) {
                return NONE;
            }
        }
        return NONE;
    }

    // ---- fairs by lots

    public int seed(int kind, int seed, int what) throws IllegalArgumentException {
        checkKind(kind);
        checkBelow(what, 3);
        goThroughByLots(kind, seed);
        switch (what) {
            case 0:
                return course.cost();
            case 1:
                return course.leftCount();
            default:
                return Integer.bitCount(setting.coming);
        }
    }

    public int mean(int seed, int many) throws IllegalArgumentException {
        if (many < 1 || many > MOST_SEEDS) {
            throw new IllegalArgumentException("no such number of seeds");
        }
        long sum = 0;
        for (int i = 0; i < many; i++) {
            goThroughByLots(FIRST, seed + i);
            sum += course.cost();
        }
        return (int) (sum / many);
    }

    // ---- images

    public int image() {
        if (imageCount >= MOST_IMAGES) {
            return -1;
        }
        System.arraycopy(toldPeople, 0, images[imageCount], 0, MOST_STRANGERS);
        imageCount++;
        return imageCount;
    }

    public int restore() {
        if (imageCount <= 0) {
            return -1;
        }
        imageCount--;
        System.arraycopy(images[imageCount], 0, toldPeople, 0, MOST_STRANGERS);
        return imageCount;
    }

    public int count(int what) {
        switch (what) {
            case 0:
                return imageCount;
            case 1:
                return taped;
            default:
                return NONE;
        }
    }

    // ---- what the calls share

    private void goThrough(int kind) {
        setting.copyFrom(town, toldPeople);
        course.run(town, setting, kind);
    }

    private void goThroughByLots(int kind, int seed) {
        setting.copyFrom(town, toldPeople);
        setting.drawComing(town, seed);
        course.run(town, setting, kind);
    }

    private int costByFirst() {
        setting.copyFrom(town, toldPeople);
        course.run(town, setting, FIRST);
        return course.cost();
    }

    private int costWithSign(int place) {
        setting.copyFrom(town, toldPeople);
        setting.signs[place] = allBits(town.streets.places);
        course.run(town, setting, FIRST);
        return course.cost();
    }

    private int costWithGuide(int place, int fee) {
        setting.copyFrom(town, toldPeople);
        setting.addGuide(place, fee);
        course.run(town, setting, FIRST);
        return course.cost();
    }

    private int costWithTwoGuides(int one, int two, int fee) {
        setting.copyFrom(town, toldPeople);
        setting.addGuide(one, fee);
        setting.addGuide(two, fee);
        course.run(town, setting, FIRST);
        return course.cost();
    }

    private int costWithLaw(int law) {
        setting.copyFrom(town, toldPeople);
        setting.law = law;
        course.run(town, setting, FIRST);
        return course.cost();
    }

    private static int allBits(int places) {
        return (1 << places) - 1;
    }

    private static boolean hasBit(int bits, int i) {
        return (bits >>> i & 1) != 0;
    }

    private void checkPlace(int place) {
        if (place < 0 || place >= town.streets.places) {
            throw new IndexOutOfBoundsException("no such place");
        }
    }

    private void checkPerson(int person) {
        if (person < 0 || person >= town.people) {
            throw new NoSuchElementException("no such person");
        }
    }

    private void checkStranger(int stranger) {
        if (stranger < 0 || stranger >= town.strangers) {
            throw new NoSuchElementException("no such stranger");
        }
    }

    private static void checkKind(int kind) {
        if (kind < 0 || kind >= KINDS) {
            throw new IllegalArgumentException("no such kind");
        }
    }

    private static void checkFee(int fee) {
        if (fee < 0 || fee > MOST_FEE) {
            throw new IllegalArgumentException("no such fee");
        }
    }

    private static void checkBelow(int what, int end) {
        if (what < 0 || what >= end) {
            throw new IllegalArgumentException("no such what");
        }
    }

    /** Places and streets, with the least minutes and the ways between all places. */
    private static final class Streets {
        int places = PLACES_UNTOLD;
        int streetCount = 0;
        final int[][] near = new int[MOST_PLACES][MOST_PLACES];
        final int[][] minutes = new int[MOST_PLACES][MOST_PLACES];

        /** The next place on the way from one to another; where one is, without a way: always some place. */
        final int[][] step = new int[MOST_PLACES][MOST_PLACES];

        void clear() {
            places = PLACES_UNTOLD;
            streetCount = 0;
            for (int a = 0; a < MOST_PLACES; a++) {
                Arrays.fill(near[a], NEVER);
            }
        }

        void addStreet(int a, int b, int length) {
            streetCount++;
            near[a][b] = Math.min(near[a][b], length);
            near[b][a] = near[a][b];
        }

        boolean reaches(int from, int to) {
            return minutes[from][to] < NEVER;
        }

        void findWays() {
            for (int a = 0; a < places; a++) {
                System.arraycopy(near[a], 0, minutes[a], 0, MOST_PLACES);
                minutes[a][a] = 0;
            }
            for (int by = 0; by < places; by++) {
                for (int a = 0; a < places; a++) {
                    for (int b = 0; b < places; b++) {
                        minutes[a][b] = Math.min(minutes[a][b], minutes[a][by] + minutes[by][b]);
                    }
                }
            }
            for (int a = 0; a < places; a++) {
                for (int b = 0; b < places; b++) {
                    step[a][b] = firstStep(a, b);
                }
            }
        }

        /** The rest of a first way is itself a first way, so that the least next place is enough. */
        private int firstStep(int from, int to) {
            if (from == to || !reaches(from, to)) {
                return from;
            }
            for (int next = 0; next < places; next++) {
                if (near[from][next] < NEVER && near[from][next] + minutes[next][to] == minutes[from][to]) {
                    return next;
                }
            }
            return from;
        }

        /** The least minutes past no blocked place but the two ends; NEVER without such a way. */
        int minutesRound(int from, int to, int blocked, int[] least) {
            Arrays.fill(least, NEVER);
            least[from] = 0;
            for (int round = 0; round < places; round++) {
                for (int a = 0; a < places; a++) {
                    if (least[a] >= NEVER || a != from && hasBit(blocked, a)) {
                        continue;
                    }
                    for (int b = 0; b < places; b++) {
                        least[b] = Math.min(least[b], least[a] + near[a][b]);
                    }
                }
            }
            return least[to];
        }
    }

    /** What a text tells. */
    private static final class Town {
        final Streets streets = new Streets();

        int people = 0;
        final int[] home = new int[MOST_PEOPLE];
        final int[] errand = new int[MOST_PEOPLE];
        final int[] leaves = new int[MOST_PEOPLE];
        final int[] worth = new int[MOST_PEOPLE];
        final int[] knows = new int[MOST_PEOPLE];

        int strangers = 0;
        final int[] comesTo = new int[MOST_STRANGERS];
        final int[] goal = new int[MOST_STRANGERS];
        final int[] comesAt = new int[MOST_STRANGERS];
        final int[] chance = new int[MOST_STRANGERS];
        final int[] finds = new int[MOST_STRANGERS];

        int guides = 0;
        final int[] guideAt = new int[MOST_GUIDES];
        final int[] guideFee = new int[MOST_GUIDES];
        final int[] signs = new int[MOST_PLACES];
        int law = 0;

        void clear() {
            streets.clear();
            people = 0;
            strangers = 0;
            guides = 0;
            Arrays.fill(signs, 0);
            law = 0;
        }

        void addPerson(int from, int to, int minute, int value) {
            if (people >= MOST_PEOPLE) {
                return;
            }
            home[people] = from;
            errand[people] = to;
            leaves[people] = minute;
            worth[people] = value;
            knows[people] = allBits(streets.places);
            people++;
        }

        void addStranger(int at, int to, int minute) {
            if (strangers >= MOST_STRANGERS) {
                return;
            }
            comesTo[strangers] = at;
            goal[strangers] = to;
            comesAt[strangers] = minute;
            chance[strangers] = SURE_CHANCE;
            finds[strangers] = 0;
            strangers++;
        }

        void addGuide(int at, int fee) {
            if (guides >= MOST_GUIDES) {
                return;
            }
            guideAt[guides] = at;
            guideFee[guides] = fee;
            guides++;
        }

        boolean goes(int p) {
            return streets.reaches(home[p], errand[p]);
        }

        /** When a person who goes comes to the end of the errand if nobody asks. */
        int arrival(int p) {
            return leaves[p] + streets.minutes[home[p]][errand[p]];
        }

        boolean canLeadTo(int p, int place, int end) {
            return hasBit(knows[p], end) && streets.reaches(place, end) && streets.reaches(end, errand[p]);
        }

        /** What a person at one place loses by going round by another one. */
        int lossBy(int p, int at, int round) {
            int more = streets.minutes[at][round] + streets.minutes[round][errand[p]] - streets.minutes[at][errand[p]];
            return worth[p] * more;
        }
    }

    /** Reads a text into a town, up to its first fault. */
    private static final class Reader {
        private static final int WORDS = 10;
        private static final int PLACES = 0;
        private static final int STREET = 1;
        private static final int PERSON = 2;
        private static final int NOT = 3;
        private static final int STRANGER = 4;
        private static final int FINDS = 5;
        private static final int CHANCE = 6;
        private static final int SIGN = 7;
        private static final int GUIDE = 8;
        private static final int LAW = 9;

        /** Above every number that may stand in a text. */
        private static final int LARGE = 100_000;

        int faultKind = 0;
        int faultPlace = NONE;
        private byte[] text = new byte[0];
        private int length = 0;
        private int at = 0;

        void read(byte[] bytes, int byteCount, Town into) {
            text = bytes;
            length = Math.min(byteCount, bytes.length);
            at = 0;
            faultKind = 0;
            faultPlace = NONE;
            into.clear();
            for (int clauses = 0; clauses <= MOST_CLAUSES && faultKind == 0; clauses++) {
                skipBlanks();
                if (at >= length) {
                    return;
                }
                readClause(into, clauses);
            }
        }

        private void fail(int kind, int place) {
            if (faultKind == 0) {
                faultKind = kind;
                faultPlace = place;
            }
        }

        private void skipBlanks() {
            while (at < length && text[at] == ' ') {
                at++;
            }
        }

        private void readClause(Town into, int clausesAhead) {
            int start = at;
            int word = readWord();
            if (word == NONE) {
                fail(1, start);
            } else if (clausesAhead >= MOST_CLAUSES || isFull(into, word)) {
                fail(3, start);
            } else if (word == PLACES && clausesAhead > 0) {
                fail(4, start);
            }
            if (faultKind != 0) {
                return;
            }
            switch (word) {
                case PLACES:
                    readPlaces(into);
                    break;
                case STREET:
                    readStreet(into);
                    break;
                case PERSON:
                    readPerson(into);
                    break;
                case NOT:
                    readNot(into);
                    break;
                case STRANGER:
                    readStranger(into);
                    break;
                case FINDS:
                    readFinds(into);
                    break;
                case CHANCE:
                    readChance(into);
                    break;
                case SIGN:
                    readSign(into);
                    break;
                case GUIDE:
                    readGuide(into);
                    break;
                default:
                    readLaw(into);
                    break;
            }
        }

        private int readWord() {
            int start = at;
            while (at < length && text[at] >= 'a' && text[at] <= 'z') {
                at++;
            }
            for (int word = 0; word < WORDS; word++) {
                if (isSpelled(spelling(word), start)) {
                    return word;
                }
            }
            return NONE;
        }

        private boolean isSpelled(String letters, int start) {
            if (letters.length() != at - start) {
                return false;
            }
            for (int i = 0; i < letters.length(); i++) {
                if (letters.charAt(i) != text[start + i]) {
                    return false;
                }
            }
            return true;
        }

        private static String spelling(int word) {
            switch (word) {
                case PLACES:
                    return "places";
                case STREET:
                    return "street";
                case PERSON:
                    return "person";
                case NOT:
                    return "not";
                case STRANGER:
                    return "stranger";
                case FINDS:
                    return "finds";
                case CHANCE:
                    return "chance";
                case SIGN:
                    return "sign";
                case GUIDE:
                    return "guide";
                default:
                    return "law";
            }
        }

        private static boolean isFull(Town into, int word) {
            switch (word) {
                case STREET:
                    return into.streets.streetCount >= MOST_STREETS;
                case PERSON:
                    return into.people >= MOST_PEOPLE;
                case STRANGER:
                    return into.strangers >= MOST_STRANGERS;
                case GUIDE:
                    return into.guides >= MOST_GUIDES;
                default:
                    return false;
            }
        }

        private void readPlaces(Town into) {
            int places = readNumber(2, MOST_PLACES);
            if (endsWell()) {
                into.streets.places = places;
            }
        }

        private void readStreet(Town into) {
            int a = readNumber(0, into.streets.places - 1);
            int b = readOtherPlace(a, into.streets.places - 1);
            int minutes = readNumber(1, MOST_STREET_MINUTES);
            if (endsWell()) {
                into.streets.addStreet(a, b, minutes);
            }
        }

        private void readPerson(Town into) {
            int from = readNumber(0, into.streets.places - 1);
            int to = readOtherPlace(from, into.streets.places - 1);
            int minute = readNumber(0, LATEST_START);
            int value = readNumber(1, MOST_WORTH);
            if (endsWell()) {
                into.addPerson(from, to, minute, value);
            }
        }

        private void readNot(Town into) {
            int who = readNumber(0, into.people - 1);
            int place = readNumber(0, into.streets.places - 1);
            if (endsWell()) {
                into.knows[who] &= ~(1 << place);
            }
        }

        private void readStranger(Town into) {
            int comesTo = readNumber(0, into.streets.places - 1);
            int goal = readOtherPlace(comesTo, into.streets.places - 1);
            int minute = readNumber(0, LATEST_START);
            if (endsWell()) {
                into.addStranger(comesTo, goal, minute);
            }
        }

        private void readFinds(Town into) {
            int who = readNumber(0, into.strangers - 1);
            int place = readNumber(0, into.streets.places - 1);
            if (endsWell()) {
                into.finds[who] |= 1 << place;
            }
        }

        private void readChance(Town into) {
            int who = readNumber(0, into.strangers - 1);
            int chance = readNumber(1, SURE_CHANCE);
            if (endsWell()) {
                into.chance[who] = chance;
            }
        }

        private void readSign(Town into) {
            int place = readNumber(0, into.streets.places - 1);
            int toldPlace = readOtherPlace(place, into.streets.places - 1);
            if (endsWell()) {
                into.signs[place] |= 1 << toldPlace;
            }
        }

        private void readGuide(Town into) {
            int place = readNumber(0, into.streets.places - 1);
            int fee = readNumber(0, MOST_FEE);
            if (endsWell()) {
                into.addGuide(place, fee);
            }
        }

        private void readLaw(Town into) {
            int law = readNumber(0, MOST_LAW);
            if (endsWell()) {
                into.law = law;
            }
        }

        /** A number from least to most; 0 behind a fault, which is then told already. */
        private int readNumber(int least, int most) {
            skipBlanks();
            int start = at;
            if (at >= length || !isDigit(text[at])) {
                fail(1, at);
            }
            if (faultKind != 0) {
                return 0;
            }
            int number = 0;
            while (at < length && isDigit(text[at])) {
                number = Math.min(LARGE, number * 10 + (text[at] - '0'));
                at++;
            }
            if (number < least || number > most) {
                fail(2, start);
                return 0;
            }
            return number;
        }

        private int readOtherPlace(int place, int mostPlace) {
            skipBlanks();
            int start = at;
            int second = readNumber(0, mostPlace);
            if (second == place) {
                fail(2, start);
            }
            return second;
        }

        private static boolean isDigit(byte sign) {
            return sign >= '0' && sign <= '9';
        }

        /** Reads the clause's end: whether the clause has no fault. */
        private boolean endsWell() {
            skipBlanks();
            if (at >= length || text[at] != ';') {
                fail(1, at);
            } else {
                at++;
            }
            return faultKind == 0;
        }
    }

    /** What holds in one day, so that a day of another town is the same day with some of it changed. */
    private static final class Setting {
        int law = 0;
        int guides = 0;
        final int[] guideAt = new int[MOST_GUIDES + MOST_GUIDES_ADDED];
        final int[] guideFee = new int[MOST_GUIDES + MOST_GUIDES_ADDED];
        final int[] signs = new int[MOST_PLACES];
        final int[] toldFor = new int[MOST_STRANGERS];
        int coming = 0;
        int resting = NONE;

        void copyFrom(Town town, int[] toldPeople) {
            law = town.law;
            guides = town.guides;
            System.arraycopy(town.guideAt, 0, guideAt, 0, MOST_GUIDES);
            System.arraycopy(town.guideFee, 0, guideFee, 0, MOST_GUIDES);
            System.arraycopy(town.signs, 0, signs, 0, MOST_PLACES);
            System.arraycopy(toldPeople, 0, toldFor, 0, MOST_STRANGERS);
            coming = allBits(town.strangers);
            resting = NONE;
        }

        void addGuide(int place, int fee) {
            if (guides >= guideAt.length) {
                return;
            }
            guideAt[guides] = place;
            guideFee[guides] = fee;
            guides++;
        }

        void drawComing(Town town, int start) {
            int drawn = start;
            coming = 0;
            for (int s = 0; s < town.strangers; s++) {
                boolean comes = town.chance[s] == SURE_CHANCE;
                if (!comes) {
                    drawn = drawn * 1_103_515_245 + 12_345;
                    comes = (drawn >>> 16 & 7) < town.chance[s];
                }
                if (comes) {
                    coming |= 1 << s;
                }
            }
        }
    }

    /** The course of one day. */
    private static final class Course {
        private Town town;
        private Setting setting;
        private int kind = FIRST;

        /** The latest or next place where a person is, and the minute; one who leads is next where he leaves. */
        private final int[] personAt = new int[MOST_PEOPLE];
        private final int[] personWhen = new int[MOST_PEOPLE];

        /** Where a stranger waits, and from which minute on. */
        private final int[] strangerAt = new int[MOST_STRANGERS];
        private final int[] strangerFrom = new int[MOST_STRANGERS];
        private final int[] guideFree = new int[MOST_GUIDES + MOST_GUIDES_ADDED];

        final int[] thereAt = new int[MOST_STRANGERS];

        /** Whoever is led comes nearer by a place at least: a row of all places holds all leaders. */
        final int[][] leaders = new int[MOST_STRANGERS][MOST_PLACES];
        final int[] leaderCount = new int[MOST_STRANGERS];
        int leadings = 0;
        int waited = 0;
        int paid = 0;

        Course(Town firstTown, Setting firstSetting) {
            town = firstTown;
            setting = firstSetting;
        }

        void run(Town newTown, Setting newSetting, int newKind) {
            town = newTown;
            setting = newSetting;
            kind = newKind;
            begin();
            for (int minute = 0; minute <= LAST_MINUTE; minute = Math.max(minute + 1, nextMinute(minute))) {
                movePeople(minute);
                for (int s = 0; s < town.strangers; s++) {
                    if (thereAt[s] == NONE && strangerFrom[s] <= minute) {
                        tryToGoOn(s, minute);
                    }
                }
            }
            countWaitingToTheEnd();
        }

        private void begin() {
            leadings = 0;
            waited = 0;
            paid = 0;
            Arrays.fill(guideFree, 0);
            for (int p = 0; p < town.people; p++) {
                personAt[p] = town.home[p];
                personWhen[p] = goesOut(p) ? town.leaves[p] : NEVER;
            }
            for (int s = 0; s < town.strangers; s++) {
                strangerAt[s] = town.comesTo[s];
                strangerFrom[s] = hasBit(setting.coming, s) ? town.comesAt[s] : NEVER;
                thereAt[s] = NONE;
                leaderCount[s] = 0;
            }
        }

        private boolean goesOut(int p) {
            return p != setting.resting && town.goes(p);
        }

        private void movePeople(int minute) {
            for (int p = 0; p < town.people; p++) {
                int end = town.errand[p];
                for (int i = 0; i < MOST_PLACES && personWhen[p] < minute && personAt[p] != end; i++) {
                    int next = town.streets.step[personAt[p]][end];
                    personWhen[p] += town.streets.minutes[personAt[p]][next];
                    personAt[p] = next;
                }
            }
        }

        /** The next minute in which anything can be other than in this one: in those between, all wait on. */
        private int nextMinute(int minute) {
            int next = NEVER;
            boolean anybodyWaits = false;
            for (int s = 0; s < town.strangers; s++) {
                if (thereAt[s] == NONE && strangerFrom[s] <= minute) {
                    anybodyWaits = true;
                } else if (thereAt[s] == NONE) {
                    next = Math.min(next, strangerFrom[s]);
                }
            }
            if (!anybodyWaits) {
                return next;
            }
            for (int p = 0; p < town.people; p++) {
                next = Math.min(next, nextMinuteOf(p, minute));
            }
            for (int g = 0; g < setting.guides; g++) {
                if (guideFree[g] > minute) {
                    next = Math.min(next, guideFree[g]);
                }
            }
            return next;
        }

        private int nextMinuteOf(int p, int minute) {
            if (personWhen[p] > minute) {
                return personWhen[p];
            }
            int end = town.errand[p];
            if (personAt[p] == end) {
                return NEVER;
            }
            return personWhen[p] + town.streets.minutes[personAt[p]][town.streets.step[personAt[p]][end]];
        }

        private void tryToGoOn(int s, int minute) {
            int place = strangerAt[s];
            int end = town.goal[s];
            if (!town.streets.reaches(place, end)) {
                return;
            }
            if (hasBit(setting.signs[place], end)) {
                move(s, end, minute);
                return;
            }
            int next = town.streets.step[place][end];
            if (kind == HALF && hasBit(town.finds[s], next)) {
                move(s, next, minute);
                return;
            }
            int leader = leaderFor(s, minute);
            if (leader != NONE) {
                isLed(s, leader, minute);
            }
        }

        private void move(int s, int to, int minute) {
            waited += minute - strangerFrom[s];
            strangerFrom[s] = minute + town.streets.minutes[strangerAt[s]][to];
            strangerAt[s] = to;
            if (to == town.goal[s]) {
                thereAt[s] = strangerFrom[s];
            }
        }

        private void isLed(int s, int leader, int minute) {
            leadings++;
            if (leaderCount[s] < leaders[s].length) {
                leaders[s][leaderCount[s]] = leader;
                leaderCount[s]++;
            }
            if (leader >= GUIDE_BASE) {
                int g = leader - GUIDE_BASE;
                int bothWays = 2 * town.streets.minutes[strangerAt[s]][town.goal[s]];
                guideFree[g] = minute + bothWays;
                paid += setting.guideFee[g] * bothWays;
                move(s, town.goal[s], minute);
                return;
            }
            move(s, leavingPlace(strangerAt[s], town.goal[s]), minute);
            personAt[leader] = strangerAt[s];
            personWhen[leader] = strangerFrom[s];
        }

        /** How far a person must lead by the law. */
        private int leavingPlace(int from, int to) {
            if (setting.law == 0) {
                return to;
            }
            int place = from;
            for (int i = 0; i < setting.law && place != to; i++) {
                place = town.streets.step[place][to];
            }
            return place;
        }

        private int leaderFor(int s, int minute) {
            switch (kind) {
                case CHOOSE: {
                    int cheapest = cheapestPerson(s, minute);
                    return cheapest != NONE ? cheapest : firstGuide(s, minute);
                }
                case GATE: {
                    int guide = firstGuide(s, minute);
                    return guide != NONE ? guide : firstPerson(s, minute);
                }
                case TOLD: {
                    int p = setting.toldFor[s];
                    return p != NONE && canLead(p, s, minute) ? p : NONE;
                }
                default: {
                    int first = firstPerson(s, minute);
                    return first != NONE ? first : firstGuide(s, minute);
                }
            }
        }

        /** That there is a way from there to where the stranger is bound is looked at before. */
        private boolean canLead(int p, int s, int minute) {
            int end = town.goal[s];
            return personWhen[p] == minute && personAt[p] == strangerAt[s] && (town.knows[p] >>> end & 1) != 0
                    && town.streets.minutes[end][town.errand[p]] < NEVER;
        }

        private int firstPerson(int s, int minute) {
            for (int p = 0; p < town.people; p++) {
                if (canLead(p, s, minute)) {
                    return p;
                }
            }
            return NONE;
        }

        private int cheapestPerson(int s, int minute) {
            int leaving = leavingPlace(strangerAt[s], town.goal[s]);
            int cheapest = NONE;
            int leastLoss = 0;
            for (int p = 0; p < town.people; p++) {
                if (!canLead(p, s, minute)) {
                    continue;
                }
                int loss = town.lossBy(p, strangerAt[s], leaving);
                if (cheapest == NONE || loss < leastLoss) {
                    cheapest = p;
                    leastLoss = loss;
                }
            }
            return cheapest;
        }

        private int firstGuide(int s, int minute) {
            for (int g = 0; g < setting.guides; g++) {
                if (setting.guideAt[g] == strangerAt[s] && guideFree[g] <= minute) {
                    return GUIDE_BASE + g;
                }
            }
            return NONE;
        }

        private void countWaitingToTheEnd() {
            for (int s = 0; s < town.strangers; s++) {
                if (thereAt[s] == NONE && strangerFrom[s] <= LAST_MINUTE) {
                    waited += LAST_MINUTE + 1 - strangerFrom[s];
                }
            }
        }

        int lostBy(int p) {
            if (!goesOut(p)) {
                return 0;
            }
            int comes = personWhen[p] + town.streets.minutes[personAt[p]][town.errand[p]];
            return town.worth[p] * (comes - town.arrival(p));
        }

        int cost() {
            int sum = paid;
            for (int p = 0; p < town.people; p++) {
                sum += lostBy(p);
            }
            return sum;
        }

        /** Whoever does not come by the lots is not left. */
        boolean isLeft(int s) {
            return thereAt[s] == NONE && hasBit(setting.coming, s);
        }

        int leftCount() {
            int sum = 0;
            for (int s = 0; s < town.strangers; s++) {
                if (isLeft(s)) {
                    sum++;
                }
            }
            return sum;
        }

        int arrivedBy(int minute) {
            int sum = 0;
            for (int s = 0; s < town.strangers; s++) {
                if (thereAt[s] != NONE && thereAt[s] <= minute) {
                    sum++;
                }
            }
            return sum;
        }

        boolean isLedBy(int s, int leader) {
            for (int i = 0; i < leaderCount[s]; i++) {
                if (leaders[s][i] == leader) {
                    return true;
                }
            }
            return false;
        }
    }

    /** Who should ask whom at one time: each person leads one stranger at most. */
    private static final class Pairing {
        /** Above all that all people together can lose by pairs. */
        private static final int LED_UNIT = 4_000_000;

        /**
         * For the strangers from one on and the people (bits) whom those ahead have: the most led, in units,
         * less the least lost.
         */
        private final int[][] best = new int[MOST_STRANGERS + 1][1 << MOST_PEOPLE];
        private final int[][] loss = new int[MOST_STRANGERS][MOST_PEOPLE];
        final int[] leader = new int[MOST_STRANGERS];
        int led = 0;
        int lostInAll = 0;

        void pair(Town town) {
            findLosses(town);
            int sets = 1 << town.people;
            Arrays.fill(best[town.strangers], 0);
            for (int s = town.strangers - 1; s >= 0; s--) {
                for (int taken = 0; taken < sets; taken++) {
                    // Those ahead have one person each at most.
                    if (Integer.bitCount(taken) <= s) {
                        best[s][taken] = bestFrom(town, s, taken);
                    }
                }
            }
            chooseFirst(town);
        }

        private void findLosses(Town town) {
            for (int s = 0; s < town.strangers; s++) {
                for (int p = 0; p < town.people; p++) {
                    loss[s][p] = lossOf(town, s, p);
                }
            }
        }

        /** NONE, if this person can't lead this stranger. */
        private static int lossOf(Town town, int s, int p) {
            int home = town.home[p];
            int at = town.comesTo[s];
            int end = town.goal[s];
            if (!town.goes(p) || !town.streets.reaches(home, at) || !town.canLeadTo(p, at, end)) {
                return NONE;
            }
            int comes = town.streets.minutes[home][at] + town.streets.minutes[at][end]
                    + town.streets.minutes[end][town.errand[p]];
            return town.worth[p] * (comes - town.streets.minutes[home][town.errand[p]]);
        }

        private int bestFrom(Town town, int s, int taken) {
            int most = best[s + 1][taken];
            for (int p = 0; p < town.people; p++) {
                if (loss[s][p] != NONE && !hasBit(taken, p)) {
                    most = Math.max(most, valueWith(s, p, taken));
                }
            }
            return most;
        }

        private int valueWith(int s, int p, int taken) {
            return LED_UNIT - loss[s][p] + best[s + 1][taken | 1 << p];
        }

        private void chooseFirst(Town town) {
            led = 0;
            lostInAll = 0;
            int taken = 0;
            for (int s = 0; s < town.strangers; s++) {
                leader[s] = firstBest(town, s, taken);
                if (leader[s] != NONE) {
                    led++;
                    lostInAll += loss[s][leader[s]];
                    taken |= 1 << leader[s];
                }
            }
        }

        private int firstBest(Town town, int s, int taken) {
            for (int p = 0; p < town.people; p++) {
                if (loss[s][p] != NONE && !hasBit(taken, p) && valueWith(s, p, taken) == best[s][taken]) {
                    return p;
                }
            }
            return NONE;
        }

        int leastTogether(Town town) {
            findLosses(town);
            int sum = 0;
            for (int s = 0; s < town.strangers; s++) {
                int least = NONE;
                for (int p = 0; p < town.people; p++) {
                    if (loss[s][p] != NONE && (least == NONE || loss[s][p] < least)) {
                        least = loss[s][p];
                    }
                }
                sum += least == NONE ? 0 : least;
            }
            return sum;
        }
    }

    /** Handing one stranger on from person to person. */
    private static final class Handing {
        private Town town;
        private int end = 0;

        /** The minute in which a person, whom nobody asks, is at a place; NONE: never. */
        private final int[][] passes = new int[MOST_PEOPLE][MOST_PLACES];

        int leastLost = NO_COST_YET;
        int leastMinute = NEVER;

        Handing(Town firstTown) {
            town = firstTown;
        }

        void find(Town newTown, int stranger, int times) {
            town = newTown;
            end = town.goal[stranger];
            leastLost = NO_COST_YET;
            leastMinute = NEVER;
            for (int p = 0; p < town.people; p++) {
                notePassing(p);
            }
            search(this, town.comesTo[stranger], town.comesAt[stranger], 0, 0, times);
        }

        private void notePassing(int p) {
            Arrays.fill(passes[p], NONE);
            if (!town.goes(p)) {
                return;
            }
            int place = town.home[p];
            passes[p][place] = town.leaves[p];
            for (int i = 0; i < MOST_PLACES && place != town.errand[p]; i++) {
                place = town.streets.step[place][town.errand[p]];
                passes[p][place] = town.leaves[p] + town.streets.minutes[town.home[p]][place];
            }
        }

        /** From where he waits from a minute on, with those asked already (bits) and what they lost. */
        private static void search(Handing h, int place, int from, int asked, int lostYet, int times) {
            if (times < 0) {
                return;
            }
            Town town = h.town;
            for (int p = 0; p < town.people; p++) {
                int minute = h.passes[p][place];
                if (hasBit(asked, p) || minute < from || !town.canLeadTo(p, place, h.end)) {
                    continue;
                }
                h.consider(lostYet + town.lossBy(p, place, h.end), minute + town.streets.minutes[place][h.end]);
                // He is led along the way to where he is bound, and nowhere else, however little that would lose.
                int to = town.streets.step[place][h.end];
                for (int i = 0; i < MOST_PLACES && times > 0 && to != h.end; i++) {
                    int lostThen = lostYet + town.lossBy(p, place, to);
                    if (lostThen <= h.leastLost) {
                        search(h, to, minute + town.streets.minutes[place][to], asked | 1 << p, lostThen, times - 1);
                    }
                    to = town.streets.step[to][h.end];
                }
            }
        }

        private void consider(int lostThen, int minute) {
            if (lostThen < leastLost || lostThen == leastLost && minute < leastMinute) {
                leastLost = lostThen;
                leastMinute = minute;
            }
        }
    }

    /** People who lead one another to places that they don't know, day by day. */
    private static final class Learning {
        private int people = 0;
        private int all = 0;
        private final int[] knows = new int[MOST_PEOPLE];
        private final int[] morning = new int[MOST_PEOPLE];

        void begin(Town town) {
            people = town.people;
            all = allBits(town.streets.places);
            System.arraycopy(town.knows, 0, knows, 0, MOST_PEOPLE);
        }

        /** Whether anybody learns anything on this day. */
        boolean goOneDay() {
            System.arraycopy(knows, 0, morning, 0, MOST_PEOPLE);
            int haveLed = 0;
            boolean learned = false;
            for (int p = 0; p < people; p++) {
                int unknown = all & ~morning[p];
                if (unknown == 0) {
                    continue;
                }
                int leastUnknown = unknown & -unknown;
                int teacher = firstWhoKnew(leastUnknown, p, haveLed);
                if (teacher != NONE) {
                    haveLed |= 1 << teacher;
                    knows[p] |= leastUnknown;
                    learned = true;
                }
            }
            return learned;
        }

        private int firstWhoKnew(int placeBit, int asker, int haveLed) {
            for (int q = 0; q < people; q++) {
                if (q != asker && (morning[q] & placeBit) != 0 && !hasBit(haveLed, q)) {
                    return q;
                }
            }
            return NONE;
        }

        boolean allKnowAll() {
            for (int p = 0; p < people; p++) {
                if (knows[p] != all) {
                    return false;
                }
            }
            return true;
        }

        int knownTogether() {
            int sum = 0;
            for (int p = 0; p < people; p++) {
                sum += Integer.bitCount(knows[p]);
            }
            return sum;
        }
    }
}
