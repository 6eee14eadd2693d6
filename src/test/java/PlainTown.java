import java.util.ArrayList;
import java.util.Arrays;
import java.util.List;
import java.util.TreeMap;

/**
 * The document said once more in its plainest form, minute by minute and by trying all there is, to compare
 * the class with. It shares no code with the class.
 */
final class PlainTown {
    static final class Person {
        int p;
        int q;
        int t;
        int v;
        boolean[] knows;
    }

    static final class Stranger {
        int x;
        int y;
        int t;
        int c = 8;
        boolean[] finds = new boolean[12];
    }

    static final class Guide {
        int x;
        int f;

        Guide(int x, int f) {
            this.x = x;
            this.f = f;
        }
    }

    int faultKind = 0;
    int faultPlace = -1;
    int places = 4;
    int law = 0;
    int streetCount = 0;
    int[][] street = new int[12][12];
    boolean[][] signs = new boolean[12][12];
    List<Person> people = new ArrayList<>();
    List<Stranger> strangers = new ArrayList<>();
    List<Guide> guides = new ArrayList<>();
    private List<Integer>[][] ways;

    // ---- the text

    /** A token: 'w' a word, 'n' a number, ';', 'e' the end, '?' anything else. */
    private static final class Token {
        char type;
        String text;
        int place;
    }

    private List<Token> tokens;
    private int next;

    static PlainTown read(byte[] bytes, int n) {
        PlainTown town = new PlainTown();
        town.tokens = tokens(bytes, n);
        int clauses = 0;
        while (town.faultKind == 0 && town.tokens.get(town.next).type != 'e') {
            town.clause(++clauses);
        }
        return town;
    }

    private static List<Token> tokens(byte[] bytes, int n) {
        List<Token> all = new ArrayList<>();
        int i = 0;
        while (i < n) {
            char c = (char) (bytes[i] & 255);
            Token t = new Token();
            t.place = i;
            int j = i + 1;
            if (c == ' ') {
                i++;
                continue;
            } else if (c >= 'a' && c <= 'z') {
                t.type = 'w';
                while (j < n && bytes[j] >= 'a' && bytes[j] <= 'z') {
                    j++;
                }
            } else if (c >= '0' && c <= '9') {
                t.type = 'n';
                while (j < n && bytes[j] >= '0' && bytes[j] <= '9') {
                    j++;
                }
            } else {
                t.type = c == ';' ? ';' : '?';
            }
            t.text = new String(bytes, i, j - i, java.nio.charset.StandardCharsets.ISO_8859_1);
            all.add(t);
            i = j;
        }
        Token end = new Token();
        end.type = 'e';
        end.place = n;
        end.text = "";
        all.add(end);
        return all;
    }

    private void fault(int kind, Token token) {
        if (faultKind == 0) {
            faultKind = kind;
            faultPlace = token.place;
        }
    }

    private void clause(int number) {
        Token word = tokens.get(next++);
        String shapes = "places N;street ZOM;person ZOTV;not PZ;stranger ZOT;finds SZ;chance SC;sign ZO;guide ZF;law L;";
        int from = (";" + shapes).indexOf(";" + word.text + " ");
        if (word.type != 'w' || from < 0) {
            fault(1, word);
            return;
        }
        String shape = shapes.substring(from + word.text.length() + 1, shapes.indexOf(';', from));
        boolean tooMany = number > 60 || word.text.equals("street") && streetCount >= 20
                || word.text.equals("person") && people.size() >= 10
                || word.text.equals("stranger") && strangers.size() >= 8
                || word.text.equals("guide") && guides.size() >= 4;
        if (tooMany) {
            fault(3, word);
            return;
        }
        if (word.text.equals("places") && number > 1) {
            fault(4, word);
            return;
        }
        int[] args = new int[shape.length()];
        for (int i = 0; i < args.length; i++) {
            Token t = tokens.get(next);
            if (t.type != 'n') {
                fault(1, t);
                return;
            }
            next++;
            String digits = t.text.replaceFirst("^0+", "");
            args[i] = digits.length() > 6 ? 999999 : digits.isEmpty() ? 0 : Integer.parseInt(digits);
            if (!stands(shape.charAt(i), args[i], i == 0 ? -1 : args[0])) {
                fault(2, t);
                return;
            }
        }
        Token end = tokens.get(next);
        if (end.type != ';') {
            fault(1, end);
            return;
        }
        next++;
        take(word.text, args);
    }

    private boolean stands(char type, int n, int first) {
        switch (type) {
            case 'N':
                return n >= 2 && n <= 12;
            case 'Z':
                return n < places;
            case 'O':
                return n < places && n != first;
            case 'M':
                return n >= 1 && n <= 60;
            case 'T':
                return n <= 500;
            case 'V':
                return n >= 1 && n <= 99;
            case 'P':
                return n < people.size();
            case 'S':
                return n < strangers.size();
            case 'C':
                return n >= 1 && n <= 8;
            default:
                return n <= 9;
        }
    }

    private void take(String word, int[] a) {
        switch (word) {
            case "places":
                places = a[0];
                break;
            case "street":
                streetCount++;
                if (street[a[0]][a[1]] == 0 || a[2] < street[a[0]][a[1]]) {
                    street[a[0]][a[1]] = a[2];
                    street[a[1]][a[0]] = a[2];
                }
                break;
            case "person": {
                Person p = new Person();
                p.p = a[0];
                p.q = a[1];
                p.t = a[2];
                p.v = a[3];
                p.knows = new boolean[places];
                Arrays.fill(p.knows, true);
                people.add(p);
                break;
            }
            case "not":
                people.get(a[0]).knows[a[1]] = false;
                break;
            case "stranger": {
                Stranger s = new Stranger();
                s.x = a[0];
                s.y = a[1];
                s.t = a[2];
                strangers.add(s);
                break;
            }
            case "finds":
                strangers.get(a[0]).finds[a[1]] = true;
                break;
            case "chance":
                strangers.get(a[0]).c = a[1];
                break;
            case "sign":
                signs[a[0]][a[1]] = true;
                break;
            case "guide":
                guides.add(new Guide(a[0], a[1]));
                break;
            default:
                law = a[0];
                break;
        }
    }

    // ---- ways, by trying all paths

    private int bestLength;
    private List<Integer> bestPath;

    @SuppressWarnings("unchecked")
    List<Integer> way(int from, int to) {
        if (ways == null) {
            ways = (List<Integer>[][]) new List<?>[12][12];
        }
        if (ways[from][to] == null) {
            bestLength = Integer.MAX_VALUE;
            bestPath = List.of();
            List<Integer> path = new ArrayList<>(List.of(from));
            tryPaths(path, 0, to, new boolean[12]);
            ways[from][to] = bestPath;
        }
        return ways[from][to];
    }

    private void tryPaths(List<Integer> path, int length, int to, boolean[] closed) {
        int at = path.get(path.size() - 1);
        if (length >= bestLength) {
            return;
        }
        if (at == to) {
            // Paths are tried in order, so that the first of the shortest stays.
            bestLength = length;
            bestPath = List.copyOf(path);
            return;
        }
        for (int z = 0; z < places; z++) {
            if (street[at][z] > 0 && !path.contains(z) && (z == to || !closed[z])) {
                path.add(z);
                tryPaths(path, length + street[at][z], to, closed);
                path.remove(path.size() - 1);
            }
        }
    }

    int far(int from, int to) {
        List<Integer> way = way(from, to);
        return way.isEmpty() ? -1 : lengthOf(way);
    }

    private int lengthOf(List<Integer> way) {
        int sum = 0;
        for (int i = 1; i < way.size(); i++) {
            sum += street[way.get(i - 1)][way.get(i)];
        }
        return sum;
    }

    int avoid(int person) {
        boolean[] closed = new boolean[12];
        for (Stranger s : strangers) {
            closed[s.x] = true;
        }
        Person p = people.get(person);
        bestLength = Integer.MAX_VALUE;
        bestPath = List.of();
        tryPaths(new ArrayList<>(List.of(p.p)), 0, p.q, closed);
        return bestPath.isEmpty() ? -1 : bestLength;
    }

    // ---- a day, minute by minute

    final class Day {
        int kind;
        int dayLaw = law;
        int resting = -1;
        int[] told = new int[8];
        boolean[] comes = new boolean[8];
        boolean[][] daySigns = new boolean[12][12];
        List<Guide> dayGuides = new ArrayList<>(guides);

        List<TreeMap<Integer, Integer>> timelines = new ArrayList<>();
        int[] at = new int[8];
        int[] from = new int[8];
        int[] there = new int[8];
        List<List<Integer>> leaders = new ArrayList<>();
        int[] free;
        int fees = 0;
        int waited = 0;
        int led = 0;

        Day(int kind) {
            this.kind = kind;
            Arrays.fill(told, -1);
            Arrays.fill(comes, true);
            for (int a = 0; a < 12; a++) {
                daySigns[a] = signs[a].clone();
            }
        }

        Day run() {
            free = new int[dayGuides.size()];
            Arrays.fill(there, -1);
            for (int k = 0; k < people.size(); k++) {
                timelines.add(new TreeMap<>());
                Person p = people.get(k);
                if (k != resting && far(p.p, p.q) >= 0) {
                    walk(k, p.p, p.t);
                }
            }
            for (int s = 0; s < strangers.size(); s++) {
                at[s] = strangers.get(s).x;
                from[s] = strangers.get(s).t;
                leaders.add(new ArrayList<>());
            }
            for (int minute = 0; minute <= 999; minute++) {
                for (int s = 0; s < strangers.size(); s++) {
                    if (comes[s] && there[s] < 0 && from[s] <= minute && !act(s, minute)) {
                        waited++;
                    }
                }
            }
            return this;
        }

        /** From a place and minute on along the way to the end of the errand. */
        private void walk(int k, int place, int minute) {
            int now = minute;
            List<Integer> way = way(place, people.get(k).q);
            for (int i = 0; i < way.size(); i++) {
                now += i == 0 ? 0 : street[way.get(i - 1)][way.get(i)];
                timelines.get(k).put(now, way.get(i));
            }
        }

        private boolean act(int s, int minute) {
            int y = strangers.get(s).y;
            List<Integer> way = way(at[s], y);
            if (way.isEmpty()) {
                return false;
            }
            if (daySigns[at[s]][y]) {
                come(s, y, minute);
                return true;
            }
            if (kind == 3 && strangers.get(s).finds[way.get(1)]) {
                come(s, way.get(1), minute);
                return true;
            }
            List<Integer> able = ableInOrder(s, minute);
            if (able.isEmpty()) {
                return false;
            }
            int leader = able.get(0);
            leaders.get(s).add(leader);
            led++;
            if (leader >= 100) {
                free[leader - 100] = minute + 2 * far(at[s], y);
                fees += dayGuides.get(leader - 100).f * 2 * far(at[s], y);
                come(s, y, minute);
            } else {
                come(s, left(way), minute);
                timelines.get(leader).tailMap(minute, true).clear();
                walk(leader, at[s], from[s]);
            }
            return true;
        }

        private int left(List<Integer> way) {
            return way.get(dayLaw == 0 ? way.size() - 1 : Math.min(dayLaw, way.size() - 1));
        }

        private void come(int s, int place, int minute) {
            from[s] = minute + far(at[s], place);
            at[s] = place;
            if (place == strangers.get(s).y) {
                there[s] = from[s];
            }
        }

        private List<Integer> ableInOrder(int s, int minute) {
            int y = strangers.get(s).y;
            List<Integer> able = new ArrayList<>();
            for (int k = 0; k < people.size(); k++) {
                Integer place = timelines.get(k).get(minute);
                if (place != null && place == at[s] && people.get(k).knows[y] && far(y, people.get(k).q) >= 0) {
                    able.add(k);
                }
            }
            if (kind == 1) {
                int drop = left(way(at[s], y));
                able.sort((a, b) -> Integer.compare(more(a, at[s], drop), more(b, at[s], drop)));
            }
            if (kind == 4) {
                able.removeIf(k -> k != told[s]);
                return able;
            }
            List<Integer> freeGuides = new ArrayList<>();
            for (int g = 0; g < dayGuides.size(); g++) {
                if (dayGuides.get(g).x == at[s] && free[g] <= minute) {
                    freeGuides.add(100 + g);
                }
            }
            if (kind == 2) {
                freeGuides.addAll(able);
                return freeGuides;
            }
            able.addAll(freeGuides);
            return able;
        }

        int lost(int k) {
            TreeMap<Integer, Integer> line = timelines.get(k);
            Person p = people.get(k);
            return line.isEmpty() ? 0 : p.v * (line.lastKey() - p.t - far(p.p, p.q));
        }

        int cost() {
            int sum = fees;
            for (int k = 0; k < people.size(); k++) {
                sum += lost(k);
            }
            return sum;
        }

        int left() {
            int sum = 0;
            for (int s = 0; s < strangers.size(); s++) {
                sum += comes[s] && there[s] < 0 ? 1 : 0;
            }
            return sum;
        }

        int thereInTime() {
            int sum = 0;
            for (int s = 0; s < strangers.size(); s++) {
                sum += there[s] >= 0 && there[s] <= 999 ? 1 : 0;
            }
            return sum;
        }
    }

    /** What a person who is at one place loses by going to his end by another. */
    private int more(int k, int place, int by) {
        Person p = people.get(k);
        return p.v * (far(place, by) + far(by, p.q) - far(place, p.q));
    }

    int costWithSign(int place) {
        Day d = new Day(0);
        Arrays.fill(d.daySigns[place], true);
        return d.run().cost();
    }

    int costWithGuides(int fee, int... at) {
        Day d = new Day(0);
        for (int place : at) {
            d.dayGuides.add(new Guide(place, fee));
        }
        return d.run().cost();
    }

    int costWithLaw(int l) {
        Day d = new Day(0);
        d.dayLaw = l;
        return d.run().cost();
    }

    int othersWithout(int person) {
        Day d = new Day(0);
        d.resting = person;
        return d.run().cost();
    }

    Day byLots(int kind, int[] told, int seed) {
        Day d = new Day(kind);
        d.told = told.clone();
        long state = seed & 0xffffffffL;
        for (int s = 0; s < strangers.size(); s++) {
            if (strangers.get(s).c < 8) {
                state = (state * 1103515245L + 12345L) & 0xffffffffL;
                d.comes[s] = (state / 65536) % 8 < strangers.get(s).c;
            }
        }
        return d.run();
    }

    // ---- pairs, by trying all

    int[] bestPairs;
    private int bestLed;
    private int bestLost;

    int pairLoss(int s, int k) {
        Person p = people.get(k);
        Stranger st = strangers.get(s);
        if (!p.knows[st.y] || far(p.p, st.x) < 0 || far(st.x, st.y) < 0 || far(st.y, p.q) < 0 || far(p.p, p.q) < 0) {
            return -1;
        }
        return p.v * (far(p.p, st.x) + far(st.x, st.y) + far(st.y, p.q) - far(p.p, p.q));
    }

    void findPairs() {
        bestPairs = null;
        tryPairs(0, new int[strangers.size()], 0, 0, 0);
    }

    private void tryPairs(int s, int[] pairs, int used, int led, int lost) {
        if (s == strangers.size()) {
            // Pairs are tried in order, so that the first of the best stays.
            if (bestPairs == null || led > bestLed || led == bestLed && lost < bestLost) {
                bestPairs = pairs.clone();
                bestLed = led;
                bestLost = lost;
            }
            return;
        }
        for (int k = 0; k < people.size(); k++) {
            int loss = pairLoss(s, k);
            if (loss >= 0 && (used >> k & 1) == 0) {
                pairs[s] = k;
                tryPairs(s + 1, pairs, used | 1 << k, led + 1, lost + loss);
            }
        }
        pairs[s] = -1;
        tryPairs(s + 1, pairs, used, led, lost);
    }

    int pairsLed() {
        return bestLed;
    }

    int pairsLost() {
        return bestLost;
    }

    int bound() {
        int sum = 0;
        for (int s = 0; s < strangers.size(); s++) {
            int least = Integer.MAX_VALUE;
            for (int k = 0; k < people.size(); k++) {
                int loss = pairLoss(s, k);
                least = loss >= 0 ? Math.min(least, loss) : least;
            }
            sum += least == Integer.MAX_VALUE ? 0 : least;
        }
        return sum;
    }

    // ---- handing on, by trying all: {lost, minute}, or null

    int[] hand(int stranger, int h) {
        Stranger s = strangers.get(stranger);
        return handFrom(s.x, s.t, s.y, new ArrayList<>(), h + 1);
    }

    private int[] handFrom(int place, int minute, int y, List<Integer> asked, int leaders) {
        if (place == y) {
            return new int[] {0, minute};
        }
        int[] best = null;
        if (leaders == 0) {
            return best;
        }
        for (int k = 0; k < people.size(); k++) {
            Person p = people.get(k);
            List<Integer> way = way(p.p, p.q);
            int i = way.indexOf(place);
            if (asked.contains(k) || i < 0 || !p.knows[y] || far(place, y) < 0) {
                continue;
            }
            int passing = p.t + lengthOf(way.subList(0, i + 1));
            if (passing < minute) {
                continue;
            }
            asked.add(k);
            for (int z : way(place, y)) {
                int[] rest = handFrom(z, passing + far(place, z), y, asked, leaders - 1);
                if (rest != null) {
                    int lost = rest[0] + more(k, place, z);
                    if (best == null || lost < best[0] || lost == best[0] && rest[1] < best[1]) {
                        best = new int[] {lost, rest[1]};
                    }
                }
            }
            asked.remove(asked.size() - 1);
        }
        return best;
    }

    // ---- learning: what all know behind each day, till nothing changes

    List<Integer> learned = new ArrayList<>();
    int soon;

    void learnAll() {
        learned.clear();
        soon = -1;
        boolean[][] knows = new boolean[people.size()][];
        for (int k = 0; k < knows.length; k++) {
            knows[k] = people.get(k).knows.clone();
        }
        for (int day = 0; day <= 150; day++) {
            int sum = 0;
            for (boolean[] row : knows) {
                for (boolean b : row) {
                    sum += b ? 1 : 0;
                }
            }
            learned.add(sum);
            if (sum == people.size() * places && soon < 0) {
                soon = day;
            }
            boolean[][] evening = new boolean[knows.length][];
            for (int k = 0; k < knows.length; k++) {
                evening[k] = knows[k].clone();
            }
            boolean[] hasLed = new boolean[knows.length];
            for (int k = 0; k < knows.length; k++) {
                int z = 0;
                while (z < places && knows[k][z]) {
                    z++;
                }
                for (int q = 0; z < places && q < knows.length; q++) {
                    if (q != k && knows[q][z] && !hasLed[q]) {
                        hasLed[q] = true;
                        evening[k][z] = true;
                        break;
                    }
                }
            }
            knows = evening;
        }
    }
}
