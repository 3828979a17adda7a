import java.util.Arrays;

/** Clusters of places by drawn delays. What each call answers is said in the document, by promise. */
public final class DelayClusters {
    public static final int BAD = -1, NO = -2, FULL = -3, NONE = -4;

    private static final int MOST_PLACES = 16;
    private static final int MOST_LINKS = 40;
    private static final int MOST_LONG = 9;
    private static final int MOST_DELAY = 30;
    private static final int MOST_FRACTION = 999;
    private static final int MOST_Z = 9999;
    private static final int MOST_TRIES = 60;
    private static final int MOST_HOUR = 200;
    private static final int MOST_DEPTH = 200;
    private static final int MOST_LETTERS = 200;
    private static final int MOST_UNDONE = 4;
    private static final String FIRST_TEXT =
        "n7;l0,1,1;l1,2,2;l2,3,1;l3,4,1;l4,5,3;l5,0,1;l1,6,1;l6,3,2;d4,2,5;";

    private final Letters text;
    private final Reader reader;
    private final Plan plan;
    private final Paths paths;
    private final Clustering present;
    private final Clustering trial;
    private final Past past;

    public DelayClusters() {
        text = new Letters();
        reader = new Reader();
        plan = new Plan();
        paths = new Paths();
        present = new Clustering(plan, paths);
        trial = new Clustering(plan, paths);
        past = new Past();
        for (int k = 0; k < FIRST_TEXT.length(); k++) {
            text.append(FIRST_TEXT.charAt(k));
        }
        layText();
        text.clear();
    }

    // ---- told

    public int write(int letter) {
        if (!isWithin(letter, 32, 126)) {
            return BAD;
        }
        if (text.isFull()) {
            return FULL;
        }
        text.append(letter);
        return text.size();
    }

    public int wipe() {
        int length = text.size();
        text.clear();
        return length;
    }

    public int fault() {
        return reader.firstFault(text);
    }

    public int lay() {
        return layText();
    }

    // ---- changes

    public int link(int i, int j, int l) {
        if (!plan.isPair(i, j) || !isWithin(l, 1, MOST_LONG)) {
            return BAD;
        }
        int before = plan.lengthOf(i, j);
        if (before == l) {
            return NO;
        }
        if (before == 0 && plan.links() >= MOST_LINKS) {
            return FULL;
        }
        changeLength(i, j, l);
        return plan.links();
    }

    public int unlink(int i, int j) {
        if (!plan.isPair(i, j)) {
            return BAD;
        }
        int before = plan.lengthOf(i, j);
        if (before == 0) {
            return NO;
        }
        changeLength(i, j, 0);
        return before;
    }

    public int delay(int i, int d, int f) {
        if (!plan.isPlace(i) || !isWithin(d, 0, MOST_DELAY) || !isWithin(f, 0, MOST_FRACTION)) {
            return BAD;
        }
        int before = present.delayOf(i);
        past.keepDelay(plan, i);
        plan.tell(i, d, f);
        present.settleBy(plan.z());
        return before;
    }

    public int drawn(int i) {
        if (!plan.isPlace(i)) {
            return BAD;
        }
        if (!plan.isTold(i)) {
            return NO;
        }
        past.keepDelay(plan, i);
        plan.untell(i);
        present.settleBy(plan.z());
        return present.delayOf(i);
    }

    public int draws(int z) {
        if (!isWithin(z, 0, MOST_Z)) {
            return BAD;
        }
        int before = plan.z();
        if (before == z) {
            return NO;
        }
        past.keepZ(plan);
        plan.setZ(z);
        present.settleBy(z);
        return before;
    }

    public int undo() {
        if (past.kept() == 0) {
            return NO;
        }
        past.takeBack(plan);
        settleAll();
        return past.kept();
    }

    // ---- places

    public int place(int i, int what) {
        if (!plan.isPlace(i)) {
            return BAD;
        }
        return switch (what) {
            case 0 -> present.delayOf(i);
            case 1 -> present.fractionOf(i);
            case 2 -> plan.isTold(i) ? 1 : 0;
            case 3 -> present.startOf(i);
            case 4 -> present.headOf(i);
            case 5 -> present.numberOf(i);
            case 6 -> present.depthOf(i);
            case 7 -> present.hourOf(i);
            case 8 -> present.upOf(i);
            case 9 -> plan.linksAt(i);
            default -> BAD;
        };
    }

    public int far(int i, int j) {
        if (!plan.isPlace(i) || !plan.isPlace(j)) {
            return BAD;
        }
        return paths.areJoined(i, j) ? paths.between(i, j) : NONE;
    }

    public int front(int hour, int k) {
        if (!isWithin(hour, 0, MOST_HOUR) || k < -1) {
            return BAD;
        }
        int found = 0;
        for (int i = 0; i < plan.places(); i++) {
            if (present.hourOf(i) == hour) {
                if (found == k) {
                    return i;
                }
                found++;
            }
        }
        return k == -1 ? found : NONE;
    }

    // ---- links

    public int linkOf(int i, int j, int what) {
        if (!plan.isPair(i, j) || !isWithin(what, 0, 1)) {
            return BAD;
        }
        if (plan.lengthOf(i, j) == 0) {
            return NONE;
        }
        return what == 0 ? plan.lengthOf(i, j) : present.kindOf(i, j);
    }

    // ---- clusters

    public int cluster(int c, int what) {
        if (!isCluster(c)) {
            return BAD;
        }
        int head = present.headNumbered(c);
        return switch (what) {
            case 0 -> head;
            case 1 -> Integer.bitCount(present.membersOf(head));
            case 2 -> present.wideOf(head);
            case 3 -> present.cutLinksOf(head);
            case 4 -> present.neighboursOf(head);
            case 5 -> present.membersOf(head);
            default -> BAD;
        };
    }

    public int beside(int c, int d, int what) {
        if (!isCluster(c) || !isCluster(d) || c == d || !isWithin(what, 0, 1)) {
            return BAD;
        }
        int one = present.headNumbered(c);
        int other = present.headNumbered(d);
        return what == 0 ? present.cutLinksBetween(one, other) : present.shortestBetween(one, other);
    }

    // ---- tried

    public int tried(int z, int what) {
        if (!isWithin(z, 0, MOST_Z) || !isWithin(what, 0, 3)) {
            return BAD;
        }
        trial.settleBy(z);
        return switch (what) {
            case 0 -> trial.clusters();
            case 1 -> trial.cutLinks();
            case 2 -> trial.greatestWide();
            default -> trial.lastHour();
        };
    }

    public int best(int n, int w, int what) {
        if (!isWithin(n, 1, MOST_TRIES) || !isWithin(w, 0, MOST_DEPTH) || !isWithin(what, 0, 1)) {
            return BAD;
        }
        int bestZ = NONE;
        int fewest = NONE;
        for (int z = 0; z < n; z++) {
            trial.settleBy(z);
            if (trial.greatestWide() <= w) {
                int cut = trial.cutLinks();
                if (bestZ == NONE || cut < fewest) {
                    bestZ = z;
                    fewest = cut;
                }
            }
        }
        return what == 0 ? bestZ : fewest;
    }

    public int chance(int i, int j, int n, int part) {
        if (!plan.isPair(i, j) || !isWithin(n, 1, MOST_TRIES) || !isWithin(part, 0, 1)) {
            return BAD;
        }
        if (plan.lengthOf(i, j) == 0) {
            return NO;
        }
        int cut = 0;
        for (int z = 0; z < n; z++) {
            trial.settleBy(z);
            if (trial.isCut(i, j)) {
                cut++;
            }
        }
        return inLowestTerms(part == 0 ? cut : n, cut, n);
    }

    public int rise(int i) {
        if (!plan.isPlace(i)) {
            return BAD;
        }
        trial.settleBy(plan.z());
        for (int d = 0; d <= MOST_DELAY; d++) {
            trial.replaceDelay(i, d);
            if (trial.earliestAt(i) == i) {
                return d;
            }
        }
        return NONE;
    }

    public int count(int what) {
        return switch (what) {
            case 0 -> plan.places();
            case 1 -> plan.links();
            case 2 -> present.clusters();
            case 3 -> present.cutLinks();
            case 4 -> present.spareLinks();
            case 5 -> present.greatestWide();
            case 6 -> present.lastHour();
            case 7 -> plan.toldDelays();
            case 8 -> plan.z();
            case 9 -> plan.mostDrawn();
            case 10 -> plan.ofTen();
            case 11 -> past.kept();
            case 12 -> text.size();
            default -> BAD;
        };
    }

    private int layText() {
        if (reader.firstFault(text) != NONE || reader.draft().places() == 0) {
            return NO;
        }
        plan.copyFrom(reader.draft());
        past.forget();
        settleAll();
        return plan.places();
    }

    private void changeLength(int i, int j, int length) {
        past.keepLink(plan, i, j);
        plan.setLength(i, j, length);
        settleAll();
    }

    private void settleAll() {
        paths.measure(plan);
        present.settleBy(plan.z());
    }

    private boolean isCluster(int c) {
        return isWithin(c, 0, present.clusters() - 1);
    }

    private static boolean isWithin(int number, int least, int most) {
        return least <= number && number <= most;
    }

    /** The part of the fraction above/below that is told, divided by what both have in common. */
    private static int inLowestTerms(int part, int above, int below) {
        for (int divisor = MOST_TRIES; divisor > 1; divisor--) {
            if (above % divisor == 0 && below % divisor == 0) {
                return part / divisor;
            }
        }
        return part;
    }

    /** The text, letter behind letter. */
    private static final class Letters {
        private final char[] signs = new char[MOST_LETTERS];
        private int length;

        boolean isFull() {
            return length >= signs.length;
        }

        int size() {
            return length;
        }

        void append(int letter) {
            if (!isFull()) {
                signs[length] = (char) letter;
                length++;
            }
        }

        void clear() {
            length = 0;
        }

        /** The letter at a place; NONE, which no letter is, outside the text. */
        int at(int k) {
            return isWithin(k, 0, length - 1) ? signs[k] : NONE;
        }
    }

    /** What is told: places, links, delays, and how the others are drawn. */
    private static final class Plan {
        private static final int FIRST_MOST_DRAWN = 8;
        private static final int FIRST_OF_TEN = 6;
        private static final int FRACTION_TURN = 99;

        private final int[] lengths = new int[MOST_PLACES * MOST_PLACES];
        private final boolean[] told = new boolean[MOST_PLACES];
        private final int[] delays = new int[MOST_PLACES];
        private final int[] fractions = new int[MOST_PLACES];
        private int places;
        private int links;
        private int mostDrawn;
        private int ofTen;
        private int z;

        void clear() {
            Arrays.fill(lengths, 0);
            for (int i = 0; i < MOST_PLACES; i++) {
                untell(i);
            }
            places = 0;
            links = 0;
            mostDrawn = FIRST_MOST_DRAWN;
            ofTen = FIRST_OF_TEN;
            z = 0;
        }

        void copyFrom(Plan other) {
            System.arraycopy(other.lengths, 0, lengths, 0, lengths.length);
            for (int i = 0; i < MOST_PLACES; i++) {
                told[i] = other.told[i];
                delays[i] = other.delays[i];
                fractions[i] = other.fractions[i];
            }
            places = other.places;
            links = other.links;
            mostDrawn = other.mostDrawn;
            ofTen = other.ofTen;
            z = other.z;
        }

        int places() {
            return places;
        }

        int links() {
            return links;
        }

        int mostDrawn() {
            return mostDrawn;
        }

        int ofTen() {
            return ofTen;
        }

        int z() {
            return z;
        }

        void setPlaces(int number) {
            places = number;
        }

        void setDrawing(int most, int tenths) {
            mostDrawn = most;
            ofTen = tenths;
        }

        void setZ(int number) {
            z = number;
        }

        boolean isPlace(int i) {
            return 0 <= i && i < places;
        }

        boolean isPair(int i, int j) {
            return isPlace(i) && isPlace(j) && i != j;
        }

        /** How long the link of two places is, 0 if there is none. */
        int lengthOf(int i, int j) {
            return lengths[i * MOST_PLACES + j];
        }

        /** Length 0 takes the link out. */
        void setLength(int i, int j, int length) {
            if (lengthOf(i, j) != 0) {
                links--;
            }
            if (length != 0) {
                links++;
            }
            lengths[i * MOST_PLACES + j] = length;
            lengths[j * MOST_PLACES + i] = length;
        }

        int linksAt(int i) {
            int number = 0;
            for (int j = 0; j < places; j++) {
                if (lengthOf(i, j) != 0) {
                    number++;
                }
            }
            return number;
        }

        boolean isTold(int i) {
            return told[i];
        }

        void tell(int i, int d, int f) {
            told[i] = true;
            delays[i] = d;
            fractions[i] = f;
        }

        void untell(int i) {
            told[i] = false;
            delays[i] = 0;
            fractions[i] = 0;
        }

        int toldDelays() {
            int number = 0;
            for (int i = 0; i < places; i++) {
                if (told[i]) {
                    number++;
                }
            }
            return number;
        }

        int delayBy(int drawsBy, int i) {
            return told[i] ? delays[i] : drawnDelay(drawsBy, i);
        }

        int fractionBy(int drawsBy, int i) {
            return told[i] ? fractions[i] : drawnNumber(drawsBy, i, FRACTION_TURN) % 1000;
        }

        private int drawnDelay(int drawsBy, int i) {
            for (int k = 0; k < mostDrawn; k++) {
                if (drawnNumber(drawsBy, i, k) % 10 >= ofTen) {
                    return k;
                }
            }
            return mostDrawn;
        }

        private static int drawnNumber(int drawsBy, int i, int k) {
            // the square is beyond an int
            long x = 7919L * drawsBy + 6151L * i + 3571L * k + 1;
            return (int) (x * x % 65521);
        }
    }

    /** Reads a text, item by item, into a plan of its own, so that a fault changes nothing. */
    private static final class Reader {
        private static final int MOST_FIGURES = 4;

        private final Plan draft = new Plan();
        private final int[] numbers = new int[3];

        Plan draft() {
            return draft;
        }

        /** Where the first item begins that is not so, or NONE. */
        int firstFault(Letters letters) {
            draft.clear();
            int item = 0;
            // an item has a letter at least, so there are no more items than letters
            for (int items = 0; items < MOST_LETTERS && item < letters.size(); items++) {
                int behind = behindItem(letters, item);
                if (behind == NONE || !takesItem(letters.at(item))) {
                    return item;
                }
                item = behind;
            }
            return NONE;
        }

        /** Keeps the item's numbers: where the next one begins, or NONE if it has not its form. */
        private int behindItem(Letters letters, int item) {
            int needed = numbersNeeded(letters.at(item));
            int at = item + 1;
            for (int k = 0; k < needed; k++) {
                at = behindNumber(letters, at, k);
                if (at == NONE || letters.at(at) != (k == needed - 1 ? ';' : ',')) {
                    return NONE;
                }
                at++;
            }
            return needed == 0 ? NONE : at;
        }

        private static int numbersNeeded(int kind) {
            return switch (kind) {
                case 'n', 'z' -> 1;
                case 'm' -> 2;
                case 'l', 'd' -> 3;
                default -> 0;
            };
        }

        private int behindNumber(Letters letters, int from, int k) {
            int number = 0;
            int figures = 0;
            while (figures < MOST_FIGURES && isWithin(letters.at(from + figures), '0', '9')) {
                number = number * 10 + letters.at(from + figures) - '0';
                figures++;
            }
            numbers[k] = number;
            return figures == 0 ? NONE : from + figures;
        }

        private boolean takesItem(int kind) {
            // places are told once, ahead of all else
            if ((kind == 'n') != (draft.places() == 0)) {
                return false;
            }
            return switch (kind) {
                case 'n' -> takesPlaces(numbers[0]);
                case 'l' -> takesLink(numbers[0], numbers[1], numbers[2]);
                case 'd' -> takesDelay(numbers[0], numbers[1], numbers[2]);
                case 'm' -> takesDrawing(numbers[0], numbers[1]);
                case 'z' -> takesZ(numbers[0]);
                default -> false;
            };
        }

        private boolean takesPlaces(int number) {
            if (!isWithin(number, 1, MOST_PLACES)) {
                return false;
            }
            draft.setPlaces(number);
            return true;
        }

        private boolean takesLink(int i, int j, int l) {
            if (!draft.isPair(i, j) || !isWithin(l, 1, MOST_LONG)) {
                return false;
            }
            if (draft.lengthOf(i, j) == 0 && draft.links() >= MOST_LINKS) {
                return false;
            }
            draft.setLength(i, j, l);
            return true;
        }

        private boolean takesDelay(int i, int d, int f) {
            if (!draft.isPlace(i) || !isWithin(d, 0, MOST_DELAY) || !isWithin(f, 0, MOST_FRACTION)) {
                return false;
            }
            draft.tell(i, d, f);
            return true;
        }

        private boolean takesDrawing(int most, int tenths) {
            if (!isWithin(most, 1, MOST_DELAY) || !isWithin(tenths, 0, 10)) {
                return false;
            }
            draft.setDrawing(most, tenths);
            return true;
        }

        private boolean takesZ(int number) {
            if (!isWithin(number, 0, MOST_Z)) {
                return false;
            }
            draft.setZ(number);
            return true;
        }
    }

    /** How far any two places are from one another; links alone decide it, not delays. */
    private static final class Paths {
        // more than all links together, and two of it are still an int
        private static final int UNJOINED = 1_000_000;

        private final int[] sums = new int[MOST_PLACES * MOST_PLACES];

        void measure(Plan plan) {
            int n = plan.places();
            for (int i = 0; i < n; i++) {
                for (int j = 0; j < n; j++) {
                    int length = plan.lengthOf(i, j);
                    sums[i * MOST_PLACES + j] = i == j ? 0 : length == 0 ? UNJOINED : length;
                }
            }
            for (int through = 0; through < n; through++) {
                for (int i = 0; i < n; i++) {
                    if (areJoined(i, through)) {
                        shortenFrom(i, through, n);
                    }
                }
            }
        }

        private void shortenFrom(int i, int through, int n) {
            for (int j = 0; j < n; j++) {
                int sum = between(i, through) + between(through, j);
                if (sum < between(i, j)) {
                    sums[i * MOST_PLACES + j] = sum;
                }
            }
        }

        boolean areJoined(int i, int j) {
            return between(i, j) < UNJOINED;
        }

        int between(int i, int j) {
            return sums[i * MOST_PLACES + j];
        }
    }

    /** Who joins whom by one number of draws. A cluster is named by its head here. */
    private static final class Clustering {
        private final Plan plan;
        private final Paths paths;
        private final int[] delays = new int[MOST_PLACES];
        private final int[] fractions = new int[MOST_PLACES];
        private final int[] heads = new int[MOST_PLACES];
        private int greatestDelay;

        Clustering(Plan plan, Paths paths) {
            this.plan = plan;
            this.paths = paths;
        }

        void settleBy(int z) {
            for (int i = 0; i < plan.places(); i++) {
                delays[i] = plan.delayBy(z, i);
                fractions[i] = plan.fractionBy(z, i);
            }
            findGreatestDelay();
            for (int j = 0; j < plan.places(); j++) {
                heads[j] = earliestAt(j);
            }
        }

        /** Heads stay as they were; earliestAt tells who would be joined. */
        void replaceDelay(int i, int d) {
            delays[i] = d;
            findGreatestDelay();
        }

        private void findGreatestDelay() {
            greatestDelay = 0;
            for (int i = 0; i < plan.places(); i++) {
                greatestDelay = Math.max(greatestDelay, delays[i]);
            }
        }

        /** From whom a place is reached first. */
        int earliestAt(int j) {
            int first = j;
            int firstHour = startOf(j);
            for (int i = 0; i < plan.places(); i++) {
                // from one that is not joined to it the hour is beyond that of its own start
                int hour = startOf(i) + paths.between(i, j);
                if (hour < firstHour || hour == firstHour && winsTie(i, first)) {
                    first = i;
                    firstHour = hour;
                }
            }
            return first;
        }

        private boolean winsTie(int one, int other) {
            if (fractions[one] != fractions[other]) {
                return fractions[one] < fractions[other];
            }
            return one < other;
        }

        int delayOf(int i) {
            return delays[i];
        }

        int fractionOf(int i) {
            return fractions[i];
        }

        int startOf(int i) {
            return greatestDelay - delays[i];
        }

        int headOf(int i) {
            return heads[i];
        }

        int depthOf(int i) {
            return paths.between(heads[i], i);
        }

        int hourOf(int i) {
            return startOf(heads[i]) + depthOf(i);
        }

        int upOf(int i) {
            if (isHead(i)) {
                return NONE;
            }
            for (int j = 0; j < plan.places(); j++) {
                int length = plan.lengthOf(i, j);
                if (length != 0 && !isCut(i, j) && depthOf(j) + length == depthOf(i)) {
                    return j;
                }
            }
            return NONE;
        }

        private boolean isHead(int i) {
            // whoever is joined joins itself: else all that join it would be reached
            // earlier, or by a lesser fraction, from whom it joins
            return heads[i] == i;
        }

        int clusters() {
            return headsBelow(plan.places());
        }

        int numberOf(int i) {
            return headsBelow(heads[i]);
        }

        private int headsBelow(int end) {
            int number = 0;
            for (int i = 0; i < end; i++) {
                if (isHead(i)) {
                    number++;
                }
            }
            return number;
        }

        int headNumbered(int c) {
            for (int i = 0; i < plan.places(); i++) {
                if (isHead(i) && numberOf(i) == c) {
                    return i;
                }
            }
            return NONE;
        }

        /** The places of a cluster, a bit each. */
        int membersOf(int head) {
            int bits = 0;
            for (int i = 0; i < plan.places(); i++) {
                if (heads[i] == head) {
                    bits |= 1 << i;
                }
            }
            return bits;
        }

        int wideOf(int head) {
            int wide = 0;
            for (int i = 0; i < plan.places(); i++) {
                if (heads[i] == head) {
                    wide = Math.max(wide, depthOf(i));
                }
            }
            return wide;
        }

        int greatestWide() {
            int wide = 0;
            for (int i = 0; i < plan.places(); i++) {
                wide = Math.max(wide, depthOf(i));
            }
            return wide;
        }

        int lastHour() {
            int last = 0;
            for (int i = 0; i < plan.places(); i++) {
                last = Math.max(last, hourOf(i));
            }
            return last;
        }

        boolean isCut(int i, int j) {
            return heads[i] != heads[j];
        }

        /** Of a link: 0 of the tree, 1 spare, 2 cut. */
        int kindOf(int i, int j) {
            if (isCut(i, j)) {
                return 2;
            }
            return upOf(i) == j || upOf(j) == i ? 0 : 1;
        }

        int cutLinks() {
            int number = 0;
            for (int i = 0; i < plan.places(); i++) {
                for (int j = 0; j < i; j++) {
                    if (plan.lengthOf(i, j) != 0 && isCut(i, j)) {
                        number++;
                    }
                }
            }
            return number;
        }

        int spareLinks() {
            // the tree has one link, the one up, of each place that is no head
            int ofTree = plan.places() - clusters();
            return plan.links() - cutLinks() - ofTree;
        }

        int cutLinksOf(int head) {
            int number = 0;
            for (int other = 0; other < plan.places(); other++) {
                if (other != head) {
                    number += cutLinksBetween(head, other);
                }
            }
            return number;
        }

        int neighboursOf(int head) {
            int number = 0;
            for (int other = 0; other < plan.places(); other++) {
                if (other != head && cutLinksBetween(head, other) > 0) {
                    number++;
                }
            }
            return number;
        }

        int cutLinksBetween(int one, int other) {
            int number = 0;
            for (int i = 0; i < plan.places(); i++) {
                for (int j = 0; j < plan.places(); j++) {
                    if (isLinkBetween(i, j, one, other)) {
                        number++;
                    }
                }
            }
            return number;
        }

        int shortestBetween(int one, int other) {
            int shortest = NONE;
            for (int i = 0; i < plan.places(); i++) {
                for (int j = 0; j < plan.places(); j++) {
                    if (isLinkBetween(i, j, one, other)
                            && (shortest == NONE || plan.lengthOf(i, j) < shortest)) {
                        shortest = plan.lengthOf(i, j);
                    }
                }
            }
            return shortest;
        }

        private boolean isLinkBetween(int i, int j, int one, int other) {
            return heads[i] == one && heads[j] == other && plan.lengthOf(i, j) != 0;
        }
    }

    /** The latest changes, as many as can be undone; the oldest makes room for a new one. */
    private static final class Past {
        private final Change[] changes = new Change[MOST_UNDONE];
        private int next;
        private int kept;

        Past() {
            for (int k = 0; k < MOST_UNDONE; k++) {
                changes[k] = new Change();
            }
        }

        int kept() {
            return kept;
        }

        void forget() {
            kept = 0;
        }

        void keepLink(Plan plan, int i, int j) {
            freshChange().rememberLink(plan, i, j);
        }

        void keepDelay(Plan plan, int i) {
            freshChange().rememberDelay(plan, i);
        }

        void keepZ(Plan plan) {
            freshChange().rememberZ(plan);
        }

        private Change freshChange() {
            Change fresh = changes[next];
            next = (next + 1) % MOST_UNDONE;
            kept = Math.min(kept + 1, MOST_UNDONE);
            return fresh;
        }

        void takeBack(Plan plan) {
            if (kept > 0) {
                kept--;
                next = (next + MOST_UNDONE - 1) % MOST_UNDONE;
                changes[next].restore(plan);
            }
        }
    }

    /** What one change has overwritten. */
    private static final class Change {
        private static final int OF_LINK = 0;
        private static final int OF_DELAY = 1;
        private static final int OF_Z = 2;

        private int kind;
        private int i;
        private int j;
        private int length;
        private boolean wasTold;
        private int d;
        private int f;
        private int z;

        void rememberLink(Plan plan, int one, int other) {
            kind = OF_LINK;
            i = one;
            j = other;
            length = plan.lengthOf(one, other);
        }

        void rememberDelay(Plan plan, int one) {
            kind = OF_DELAY;
            i = one;
            wasTold = plan.isTold(one);
            d = plan.delayBy(plan.z(), one);
            f = plan.fractionBy(plan.z(), one);
        }

        void rememberZ(Plan plan) {
            kind = OF_Z;
            z = plan.z();
        }

        void restore(Plan plan) {
            if (kind == OF_LINK) {
                plan.setLength(i, j, length);
            } else if (kind == OF_Z) {
                plan.setZ(z);
            } else if (wasTold) {
                plan.tell(i, d, f);
            } else {
                plan.untell(i);
            }
        }
    }
}
