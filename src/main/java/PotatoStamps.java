import java.util.Arrays;
import java.util.NoSuchElementException;

/** The post office of children in a library; README.md tells how to use it. */
public final class PotatoStamps {
    private static final int CHILDREN = 6;
    private static final int MAX_CRAYONS = 8;
    private static final int MAX_ITEMS = 20;
    private static final int MAX_POTATOES = 5;
    private static final int MAX_WORDS = 40;
    private static final int MAX_SNACKS = 50;
    private static final int MAX_UNDO = 8;
    private static final int MAX_SIGNS = 60;

    private static final int LETTER = 0;
    private static final int PARCEL = 1;

    private static final int MADE = 0;
    private static final int STAMPED = 1;
    private static final int SHELVED = 2;
    private static final int TAKEN = 3;
    private static final int EATEN = 4;

    private static final int NONE = -1;

    // A verdict is FINE, one of these two, or the number of the reason of a refusal.
    private static final int FINE = 0;
    private static final int NO_SUCH = -1;
    private static final int OUT_OF_RANGE = -2;

    private static final int TOO_MANY = 1;
    private static final int SAME_CHILD = 2;
    private static final int SHORT_CRAYON = 3;
    private static final int LITTLE_STRING = 4;
    private static final int NOT_MADE = 5;
    private static final int WEAK_PRINT = 6;
    private static final int NOT_STAMPED = 7;
    private static final int FULL_ROW = 8;
    private static final int OTHER_ROW = 9;
    private static final int EMPTY_SHELF = 10;
    private static final int FEW_SNACKS = 11;

    private static final int WRITE = 0;
    private static final int STAMP = 1;
    private static final int SHELVE = 2;
    private static final int TAKE = 3;
    private static final int FEED = 4;
    private static final int PASS = 5;
    private static final String ORDER_SIGNS = "wshtfp";

    // The longest crayon writes some 240 letters of one word.
    private static final int MOST_LENGTHS = 1000;
    // Far above what a count can reach that ends by the numbers of floats.
    private static final int MOST_STEPS = 1000000;

    private final Clerk clerk = new Clerk();
    private final Office now = clerk.office;
    private final Office draft = new Office();
    private final Office snapshot = new Office();
    private final History history = new History();
    private final OrderText input = new OrderText();
    private final float[] lengths = new float[MOST_LENGTHS];
    private boolean isSaved;

    public PotatoStamps() {
    }

    public int crayon(int tenths) throws IllegalArgumentException, UnsupportedOperationException {
        demand(clerk.mayAddCrayon(tenths));
        history.remember(now);
        return now.desk.addCrayon(0.1f * (float) tenths);
    }

    public float crayonOf(int crayon) throws IndexOutOfBoundsException {
        demand(now.desk.hasCrayon(crayon) ? FINE : NO_SUCH);
        return now.desk.crayons[crayon];
    }

    public int letter(int from, int to, int words, int crayon)
            throws IndexOutOfBoundsException, IllegalArgumentException, UnsupportedOperationException {
        demand(clerk.mayWrite(from, to, words, crayon));
        history.remember(now);
        return now.writeLetter(from, to, words, crayon);
    }

    public int parcel(int from, int to, int a, int b, int c)
            throws IndexOutOfBoundsException, IllegalArgumentException, UnsupportedOperationException {
        demand(clerk.mayWrap(from, to, a, b, c));
        history.remember(now);
        return now.wrapParcel(from, to, a, b, c);
    }

    public int itemOf(int item, int what) throws IndexOutOfBoundsException, IllegalArgumentException {
        demandItem(item);
        demand(inRange(what, 0, 6) ? FINE : OUT_OF_RANGE);
        return now.items.numberOf(item, what);
    }

    public int reads(int item) throws IndexOutOfBoundsException, NoSuchElementException {
        demandItem(item);
        demandFound(now.items.kinds[item] == LETTER);
        return Bits.ofFloat(now.items.readings[item]);
    }

    public int stringFor(int a, int b, int c) throws IllegalArgumentException {
        demand(areSides(a, b, c) ? FINE : OUT_OF_RANGE);
        return Bits.ofFloat(stringNeeded(a, b, c));
    }

    public int string(int metres) throws IllegalArgumentException {
        demand(inRange(metres, 1, 20) ? FINE : OUT_OF_RANGE);
        history.remember(now);
        now.desk.addString((float) metres);
        return Bits.ofFloat(now.desk.metres);
    }

    public int lettersOf(int crayon, int words) throws IndexOutOfBoundsException, IllegalArgumentException {
        demandWriting(crayon, words);
        float cost = crayonNeeded(words);
        float length = now.desk.crayons[crayon];
        int letters = 0;
        while (letters < MOST_STEPS && length >= cost) {
            length = length - cost;
            letters++;
        }
        return letters;
    }

    public int lettersAgain(int crayon, int words) throws IndexOutOfBoundsException, IllegalArgumentException {
        demandWriting(crayon, words);
        float cost = crayonNeeded(words);
        lengths[0] = now.desk.crayons[crayon];
        int last = 0;
        while (last + 1 < lengths.length && lengths[last] >= cost) {
            lengths[last + 1] = lengths[last] - cost;
            last++;
        }
        return last;
    }

    public int ranked(int place) throws NoSuchElementException {
        int letter = now.items.letterAt(place);
        demandFound(letter != NONE);
        return letter;
    }

    public int potato() throws UnsupportedOperationException {
        demand(clerk.mayCut());
        history.remember(now);
        return now.desk.addPotato();
    }

    public float firmness(int potato) throws IndexOutOfBoundsException {
        demandPotato(potato);
        return now.desk.potatoes[potato];
    }

    public int print(int potato) throws IndexOutOfBoundsException {
        demandPotato(potato);
        return Bits.ofFloat(now.desk.printNow(potato));
    }

    public int stampsOf(int potato) throws IndexOutOfBoundsException {
        demandPotato(potato);
        float firm = now.desk.potatoes[potato];
        float left = now.desk.inkLeft;
        int stamps = 0;
        while (stamps < MOST_STEPS && isStrong(printOf(firm, left))) {
            firm = softer(firm);
            left = drier(left);
            stamps++;
        }
        return stamps;
    }

    public int best() throws NoSuchElementException {
        int potato = now.desk.strongest();
        demandFound(potato != NONE);
        return potato;
    }

    public int ink(int tenths) throws IllegalArgumentException {
        demand(inRange(tenths, 1, 50) ? FINE : OUT_OF_RANGE);
        history.remember(now);
        now.desk.addInk(0.1f * (float) tenths);
        return Bits.ofFloat(now.desk.inkLeft);
    }

    public float inkNow() {
        return now.desk.inkLeft;
    }

    public int stamp(int item, int potato) throws IndexOutOfBoundsException, UnsupportedOperationException {
        demand(clerk.mayStamp(item, potato));
        history.remember(now);
        return Bits.ofFloat(now.stampItem(item, potato));
    }

    public int shelve(int item, int row) throws IndexOutOfBoundsException, UnsupportedOperationException {
        demand(clerk.mayShelve(item, row));
        history.remember(now);
        return now.shelveItem(item, row);
    }

    public int take(int child) throws IndexOutOfBoundsException, UnsupportedOperationException {
        demand(clerk.mayTake(child));
        history.remember(now);
        return now.takeAll(child);
    }

    public int inHole(int child, int row, int hole) throws IndexOutOfBoundsException, NoSuchElementException {
        demand(Shelves.isHole(child, row, hole) ? FINE : NO_SUCH);
        int item = now.shelves.itemAt(child, row, hole);
        demandFound(item != NONE);
        return item;
    }

    public int read(int child) throws IndexOutOfBoundsException {
        demand(isChild(child) ? FINE : NO_SUCH);
        return now.shelves.lettersRead[child];
    }

    public int snacks(int many) throws IllegalArgumentException {
        demand(inRange(many, 1, 20) ? FINE : OUT_OF_RANGE);
        history.remember(now);
        now.dragon.addSnacks(many);
        return now.dragon.snacksLeft;
    }

    public int feed(int many) throws IllegalArgumentException, UnsupportedOperationException {
        demand(clerk.mayFeed(many));
        history.remember(now);
        now.dragon.eatSnacks(many);
        return Bits.ofFloat(now.dragon.appetite);
    }

    public float hunger() {
        return now.dragon.appetite;
    }

    public int prey() throws NoSuchElementException {
        int letter = now.items.worstOnShelf();
        demandFound(letter != NONE);
        return letter;
    }

    public int eatsIn() throws NoSuchElementException {
        demandFound(now.items.worstOnShelf() != NONE);
        float appetite = hungrier(now.dragon.appetite);
        int hours = 1;
        while (hours < MOST_STEPS && !isHungry(appetite)) {
            appetite = hungrier(appetite);
            hours++;
        }
        return hours;
    }

    public int pass(int hours) throws IllegalArgumentException {
        demand(clerk.mayPass(hours));
        history.remember(now);
        return now.passHours(hours);
    }

    public char sign(int item) throws IndexOutOfBoundsException {
        demandItem(item);
        String signs = now.items.kinds[item] == LETTER ? "mshte" : "MSHTE";
        return signs.charAt(now.items.states[item]);
    }

    public int append(char c) throws IllegalStateException {
        if (input.length >= MAX_SIGNS) {
            throw new IllegalStateException("the input is full");
        }
        input.add(c);
        return input.length;
    }

    public int run() throws IllegalArgumentException, UnsupportedOperationException {
        input.scan();
        demand(input.errorAt == NONE ? FINE : OUT_OF_RANGE);
        draft.copyFrom(now);
        int verdict = FINE;
        for (int order = 0; order < input.orders && verdict == FINE; order++) {
            verdict = carryOut(order);
        }
        if (verdict != FINE) {
            now.copyFrom(draft);
        }
        demand(verdict == NO_SUCH ? OUT_OF_RANGE : verdict);
        history.remember(draft);
        return input.orders;
    }

    public int errorPosition() {
        return input.errorAt;
    }

    public int refusal(boolean isDetail) throws NoSuchElementException {
        demandFound(clerk.reason != FINE);
        return isDetail ? clerk.detail : clerk.reason;
    }

    public int account(int what) throws IllegalArgumentException {
        switch (what) {
            case 0:
                return now.dragon.hour;
            case 1:
                return now.desk.crayonCount;
            case 2:
                return now.items.count;
            case 3:
                return now.items.letters();
            case 4:
                return now.desk.potatoCount;
            case 5:
            case 6:
            case 7:
            case 8:
            case 9:
                return now.items.inState(what - 5);
            case 10:
                return now.dragon.snacksLeft;
            case 11:
                return now.dragon.snacksEaten;
            case 12:
                return now.items.allWords();
            case 13:
                return input.length;
            case 14:
                return history.count;
            default:
                throw new IllegalArgumentException("no such account");
        }
    }

    public boolean isWell() {
        return now.areItemsWell() && now.areHolesWell() && now.areReadersWell();
    }

    public long meanBits() throws ArithmeticException {
        int letters = now.items.letters();
        if (letters == 0) {
            throw new ArithmeticException("there are no letters");
        }
        return Bits.ofDouble(now.items.sumOfReadings() / (double) letters);
    }

    public int undo() throws IllegalStateException {
        if (history.count == 0) {
            throw new IllegalStateException("there is nothing to undo");
        }
        history.bringBack(now);
        return history.count;
    }

    public int save() {
        snapshot.copyFrom(now);
        isSaved = true;
        return now.items.count;
    }

    public int restore() throws IllegalStateException {
        if (!isSaved) {
            throw new IllegalStateException("there is no snapshot");
        }
        now.copyFrom(snapshot);
        history.forget();
        return now.items.count;
    }

    private static void demand(int verdict) {
        if (verdict == NO_SUCH) {
            throw new IndexOutOfBoundsException("there is no such thing");
        }
        if (verdict == OUT_OF_RANGE) {
            throw new IllegalArgumentException("this is out of range");
        }
        if (verdict != FINE) {
            throw new UnsupportedOperationException("this is refused");
        }
    }

    private static void demandFound(boolean isFound) {
        if (!isFound) {
            throw new NoSuchElementException("there is none");
        }
    }

    private void demandItem(int item) {
        demand(now.items.has(item) ? FINE : NO_SUCH);
    }

    private void demandPotato(int potato) {
        demand(now.desk.hasPotato(potato) ? FINE : NO_SUCH);
    }

    private void demandWriting(int crayon, int words) {
        demand(now.desk.hasCrayon(crayon) ? FINE : NO_SUCH);
        demand(inRange(words, 1, MAX_WORDS) ? FINE : OUT_OF_RANGE);
    }

    private int carryOut(int order) {
        int first = input.numberOf(order, 0);
        int second = input.numberOf(order, 1);
        switch (input.kinds[order]) {
            case WRITE:
                return orderWriting(first, second, input.numberOf(order, 2), input.numberOf(order, 3));
            case STAMP:
                return orderStamping(first, second);
            case SHELVE:
                return orderShelving(first);
            case TAKE:
                return orderTaking(first);
            case FEED:
                return orderFeeding(first);
            case PASS:
                return orderPassing(first);
            default:
                return OUT_OF_RANGE;
        }
    }

    private int orderWriting(int from, int to, int words, int crayon) {
        int verdict = clerk.mayWrite(from, to, words, crayon);
        if (verdict == FINE) {
            now.writeLetter(from, to, words, crayon);
        }
        return verdict;
    }

    private int orderStamping(int item, int potato) {
        int verdict = clerk.mayStamp(item, potato);
        if (verdict == FINE) {
            now.stampItem(item, potato);
        }
        return verdict;
    }

    private int orderShelving(int item) {
        if (!now.items.has(item)) {
            return NO_SUCH;
        }
        int row = now.items.kinds[item];
        int verdict = clerk.mayShelve(item, row);
        if (verdict == FINE) {
            now.shelveItem(item, row);
        }
        return verdict;
    }

    private int orderTaking(int child) {
        int verdict = clerk.mayTake(child);
        if (verdict == FINE) {
            now.takeAll(child);
        }
        return verdict;
    }

    private int orderFeeding(int many) {
        int verdict = clerk.mayFeed(many);
        if (verdict == FINE) {
            now.dragon.eatSnacks(many);
        }
        return verdict;
    }

    private int orderPassing(int hours) {
        int verdict = clerk.mayPass(hours);
        if (verdict == FINE) {
            now.passHours(hours);
        }
        return verdict;
    }

    private static boolean inRange(int number, int least, int most) {
        return number >= least && number <= most;
    }

    private static boolean isChild(int child) {
        return inRange(child, 0, CHILDREN - 1);
    }

    private static boolean areSides(int a, int b, int c) {
        return inRange(a, 1, 9) && inRange(b, 1, 9) && inRange(c, 1, 9);
    }

    private static float crayonNeeded(int words) {
        return 0.05f * (float) words;
    }

    private static float stringNeeded(int a, int b, int c) {
        return 0.1f * (float) (2 * a + 2 * b + 4 * c);
    }

    private static float printOf(float firm, float left) {
        return firm * (left / (left + 0.5f));
    }

    private static boolean isStrong(float print) {
        return print >= 0.3f;
    }

    private static float softer(float firm) {
        return 0.9f * firm;
    }

    private static float drier(float left) {
        return 0.95f * left;
    }

    private static float hungrier(float appetite) {
        return appetite + 1.5f;
    }

    private static boolean isHungry(float appetite) {
        return appetite > 8.0f;
    }

    /** The bits of numbers that are 0 or normal and above it, as all are that the office tells. */
    private static final class Bits {
        static int ofFloat(float number) {
            if (number <= 0.0f) {
                return 0;
            }
            float scaled = number;
            int exponent = 127;
            while (exponent < 254 && scaled >= 2.0f) {
                scaled = scaled * 0.5f;
                exponent++;
            }
            while (exponent > 1 && scaled < 1.0f) {
                scaled = scaled * 2.0f;
                exponent--;
            }
            return (exponent << 23) + (int) ((scaled - 1.0f) * 8388608.0f);
        }

        static long ofDouble(double number) {
            if (number <= 0.0) {
                return 0L;
            }
            double scaled = number;
            int exponent = 1023;
            while (exponent < 2046 && scaled >= 2.0) {
                scaled = scaled * 0.5;
                exponent++;
            }
            while (exponent > 1 && scaled < 1.0) {
                scaled = scaled * 2.0;
                exponent--;
            }
            return ((long) exponent << 52) + (long) ((scaled - 1.0) * 4503599627370496.0);
        }
    }

    /** What lies on the desk: crayons, string, potatoes and ink. */
    private static final class Desk {
        final float[] crayons = new float[MAX_CRAYONS];
        final float[] potatoes = new float[MAX_POTATOES];
        int crayonCount;
        int potatoCount;
        float metres = 3.0f;
        float inkLeft = 2.0f;

        void copyFrom(Desk other) {
            System.arraycopy(other.crayons, 0, crayons, 0, MAX_CRAYONS);
            System.arraycopy(other.potatoes, 0, potatoes, 0, MAX_POTATOES);
            crayonCount = other.crayonCount;
            potatoCount = other.potatoCount;
            metres = other.metres;
            inkLeft = other.inkLeft;
        }

        boolean hasCrayon(int crayon) {
            return crayon >= 0 && crayon < crayonCount;
        }

        boolean hasPotato(int potato) {
            return potato >= 0 && potato < potatoCount;
        }

        int addCrayon(float length) {
            int crayon = crayonCount;
            crayons[crayon] = length;
            crayonCount++;
            return crayon;
        }

        int addPotato() {
            int potato = potatoCount;
            potatoes[potato] = 1.0f;
            potatoCount++;
            return potato;
        }

        void addString(float more) {
            float sum = metres + more;
            metres = sum > 99.0f ? 99.0f : sum;
        }

        void addInk(float more) {
            float sum = inkLeft + more;
            inkLeft = sum > 9.0f ? 9.0f : sum;
        }

        float printNow(int potato) {
            return printOf(potatoes[potato], inkLeft);
        }

        int strongest() {
            int found = NONE;
            for (int potato = 0; potato < potatoCount; potato++) {
                if (found == NONE || printNow(potato) > printNow(found)) {
                    found = potato;
                }
            }
            return found;
        }
    }

    /** All letters and parcels, a row of each of their numbers. */
    private static final class Items {
        final int[] kinds = new int[MAX_ITEMS];
        final int[] senders = new int[MAX_ITEMS];
        final int[] receivers = new int[MAX_ITEMS];
        final int[] sizes = new int[MAX_ITEMS];
        final int[] states = new int[MAX_ITEMS];
        final int[] holes = new int[MAX_ITEMS];
        final int[] stampers = new int[MAX_ITEMS];
        final float[] readings = new float[MAX_ITEMS];
        int count;

        void copyFrom(Items other) {
            System.arraycopy(other.kinds, 0, kinds, 0, MAX_ITEMS);
            System.arraycopy(other.senders, 0, senders, 0, MAX_ITEMS);
            System.arraycopy(other.receivers, 0, receivers, 0, MAX_ITEMS);
            System.arraycopy(other.sizes, 0, sizes, 0, MAX_ITEMS);
            System.arraycopy(other.states, 0, states, 0, MAX_ITEMS);
            System.arraycopy(other.holes, 0, holes, 0, MAX_ITEMS);
            System.arraycopy(other.stampers, 0, stampers, 0, MAX_ITEMS);
            System.arraycopy(other.readings, 0, readings, 0, MAX_ITEMS);
            count = other.count;
        }

        boolean has(int item) {
            return item >= 0 && item < count;
        }

        int add(int kind, int from, int to, int size) {
            int item = count;
            kinds[item] = kind;
            senders[item] = from;
            receivers[item] = to;
            sizes[item] = size;
            states[item] = MADE;
            holes[item] = NONE;
            stampers[item] = NONE;
            readings[item] = 0.0f;
            count++;
            return item;
        }

        int numberOf(int item, int what) {
            switch (what) {
                case 0:
                    return kinds[item];
                case 1:
                    return senders[item];
                case 2:
                    return receivers[item];
                case 3:
                    return sizes[item];
                case 4:
                    return states[item];
                case 5:
                    return holes[item];
                default:
                    return stampers[item];
            }
        }

        void leaveShelf(int item, int state) {
            states[item] = state;
            holes[item] = NONE;
        }

        int letters() {
            int sum = 0;
            for (int item = 0; item < count; item++) {
                if (kinds[item] == LETTER) {
                    sum++;
                }
            }
            return sum;
        }

        int inState(int state) {
            int sum = 0;
            for (int item = 0; item < count; item++) {
                if (states[item] == state) {
                    sum++;
                }
            }
            return sum;
        }

        int allWords() {
            int sum = 0;
            for (int item = 0; item < count; item++) {
                if (kinds[item] == LETTER) {
                    sum += sizes[item];
                }
            }
            return sum;
        }

        double sumOfReadings() {
            double sum = 0.0;
            for (int item = 0; item < count; item++) {
                if (kinds[item] == LETTER) {
                    sum = sum + (double) readings[item];
                }
            }
            return sum;
        }

        int takenLettersTo(int child) {
            int sum = 0;
            for (int item = 0; item < count; item++) {
                if (kinds[item] == LETTER && states[item] == TAKEN && receivers[item] == child) {
                    sum++;
                }
            }
            return sum;
        }

        int worstOnShelf() {
            int found = NONE;
            for (int item = 0; item < count; item++) {
                if (kinds[item] == LETTER && states[item] == SHELVED
                        && (found == NONE || readings[item] < readings[found])) {
                    found = item;
                }
            }
            return found;
        }

        int letterAt(int place) {
            for (int item = 0; item < count; item++) {
                if (kinds[item] == LETTER && lettersAhead(item) == place) {
                    return item;
                }
            }
            return NONE;
        }

        int lettersAhead(int letter) {
            int sum = 0;
            for (int item = 0; item < count; item++) {
                if (kinds[item] == LETTER && isAhead(item, letter)) {
                    sum++;
                }
            }
            return sum;
        }

        boolean isAhead(int item, int letter) {
            return readings[item] > readings[letter]
                    || readings[item] == readings[letter] && item < letter;
        }
    }

    /** The pigeonholes of all children, and how many letters came out of them into hands. */
    private static final class Shelves {
        private static final int LETTER_HOLES = 3;
        private static final int PARCEL_HOLES = 2;
        private static final int HOLES = LETTER_HOLES + PARCEL_HOLES;

        final int[] contents = new int[CHILDREN * HOLES];
        final int[] lettersRead = new int[CHILDREN];

        Shelves() {
            Arrays.fill(contents, NONE);
        }

        void copyFrom(Shelves other) {
            System.arraycopy(other.contents, 0, contents, 0, CHILDREN * HOLES);
            System.arraycopy(other.lettersRead, 0, lettersRead, 0, CHILDREN);
        }

        static int holesIn(int row) {
            return row == LETTER ? LETTER_HOLES : PARCEL_HOLES;
        }

        static boolean isHole(int child, int row, int hole) {
            return isChild(child) && inRange(row, LETTER, PARCEL) && inRange(hole, 0, holesIn(row) - 1);
        }

        static int placeOf(int child, int row, int hole) {
            return child * HOLES + row * LETTER_HOLES + hole;
        }

        int itemAt(int child, int row, int hole) {
            return contents[placeOf(child, row, hole)];
        }

        void put(int child, int row, int hole, int item) {
            contents[placeOf(child, row, hole)] = item;
        }

        int lowestFree(int child, int row) {
            for (int hole = 0; hole < holesIn(row); hole++) {
                if (itemAt(child, row, hole) == NONE) {
                    return hole;
                }
            }
            return NONE;
        }

        boolean isBare(int child) {
            for (int row = LETTER; row <= PARCEL; row++) {
                for (int hole = 0; hole < holesIn(row); hole++) {
                    if (itemAt(child, row, hole) != NONE) {
                        return false;
                    }
                }
            }
            return true;
        }
    }

    /** The dragon, its snacks, and the hours that make it hungry. */
    private static final class Dragon {
        float appetite;
        int snacksLeft;
        int snacksEaten;
        int hour;

        void copyFrom(Dragon other) {
            appetite = other.appetite;
            snacksLeft = other.snacksLeft;
            snacksEaten = other.snacksEaten;
            hour = other.hour;
        }

        void addSnacks(int many) {
            snacksLeft = Math.min(snacksLeft + many, MAX_SNACKS);
        }

        void eatSnacks(int many) {
            for (int snack = 0; snack < many; snack++) {
                float less = appetite - 2.0f;
                appetite = less < 0.0f ? 0.0f : less;
            }
            snacksLeft -= many;
            snacksEaten += many;
        }
    }

    /** All that changes can change; who calls one of its changes has asked the clerk first. */
    private static final class Office {
        final Desk desk = new Desk();
        final Items items = new Items();
        final Shelves shelves = new Shelves();
        final Dragon dragon = new Dragon();

        void copyFrom(Office other) {
            desk.copyFrom(other.desk);
            items.copyFrom(other.items);
            shelves.copyFrom(other.shelves);
            dragon.copyFrom(other.dragon);
        }

        int writeLetter(int from, int to, int words, int crayon) {
            float length = desk.crayons[crayon] - crayonNeeded(words);
            desk.crayons[crayon] = length;
            int item = items.add(LETTER, from, to, words);
            items.readings[item] = (length + 1.0f) / ((length + 1.0f) + 0.1f * (float) words);
            return item;
        }

        int wrapParcel(int from, int to, int a, int b, int c) {
            desk.metres = desk.metres - stringNeeded(a, b, c);
            return items.add(PARCEL, from, to, a + b + c);
        }

        float stampItem(int item, int potato) {
            float print = desk.printNow(potato);
            desk.potatoes[potato] = softer(desk.potatoes[potato]);
            desk.inkLeft = drier(desk.inkLeft);
            items.states[item] = STAMPED;
            items.stampers[item] = potato;
            return print;
        }

        int shelveItem(int item, int row) {
            int child = items.receivers[item];
            int hole = shelves.lowestFree(child, row);
            if (hole != NONE) {
                shelves.put(child, row, hole, item);
                items.states[item] = SHELVED;
                items.holes[item] = hole;
            }
            return hole;
        }

        int takeAll(int child) {
            int taken = 0;
            for (int row = LETTER; row <= PARCEL; row++) {
                for (int hole = 0; hole < Shelves.holesIn(row); hole++) {
                    if (takeFrom(child, row, hole)) {
                        taken++;
                    }
                }
            }
            return taken;
        }

        boolean takeFrom(int child, int row, int hole) {
            int item = shelves.itemAt(child, row, hole);
            if (item == NONE) {
                return false;
            }
            shelves.put(child, row, hole, NONE);
            items.leaveShelf(item, TAKEN);
            if (row == LETTER) {
                shelves.lettersRead[child]++;
            }
            return true;
        }

        int passHours(int hours) {
            int eaten = 0;
            for (int passed = 0; passed < hours; passed++) {
                dragon.appetite = hungrier(dragon.appetite);
                if (isHungry(dragon.appetite) && eatLetter()) {
                    eaten++;
                }
                dragon.hour++;
            }
            return eaten;
        }

        boolean eatLetter() {
            int letter = items.worstOnShelf();
            if (letter == NONE) {
                return false;
            }
            shelves.put(items.receivers[letter], LETTER, items.holes[letter], NONE);
            items.leaveShelf(letter, EATEN);
            dragon.appetite = dragon.appetite - 5.0f;
            return true;
        }

        boolean areItemsWell() {
            for (int item = 0; item < items.count; item++) {
                if (items.states[item] == SHELVED && !isInItsHole(item)) {
                    return false;
                }
                if (items.states[item] == EATEN && items.kinds[item] != LETTER) {
                    return false;
                }
            }
            return true;
        }

        boolean isInItsHole(int item) {
            int child = items.receivers[item];
            int row = items.kinds[item];
            int hole = items.holes[item];
            return Shelves.isHole(child, row, hole) && shelves.itemAt(child, row, hole) == item;
        }

        // Told from the pigeonholes, so that an item in two of them is found too.
        boolean areHolesWell() {
            int full = 0;
            for (int place = 0; place < shelves.contents.length; place++) {
                if (shelves.contents[place] != NONE) {
                    full++;
                }
            }
            return full == items.inState(SHELVED);
        }

        boolean areReadersWell() {
            for (int child = 0; child < CHILDREN; child++) {
                if (shelves.lettersRead[child] != items.takenLettersTo(child)) {
                    return false;
                }
            }
            return true;
        }
    }

    /** Tells whether a change may be, and keeps the reason of the latest refusal. */
    private static final class Clerk {
        final Office office = new Office();
        int reason = FINE;
        int detail;

        int refuse(int newReason, int newDetail) {
            reason = newReason;
            detail = newDetail;
            return newReason;
        }

        int mayAddCrayon(int tenths) {
            if (!inRange(tenths, 10, 120)) {
                return OUT_OF_RANGE;
            }
            return office.desk.crayonCount >= MAX_CRAYONS ? refuse(TOO_MANY, MAX_CRAYONS) : FINE;
        }

        int mayCut() {
            return office.desk.potatoCount >= MAX_POTATOES ? refuse(TOO_MANY, MAX_POTATOES) : FINE;
        }

        int mayMake(int from, int to) {
            if (office.items.count >= MAX_ITEMS) {
                return refuse(TOO_MANY, MAX_ITEMS);
            }
            return from == to ? refuse(SAME_CHILD, from) : FINE;
        }

        int mayWrite(int from, int to, int words, int crayon) {
            if (!isChild(from) || !isChild(to) || !office.desk.hasCrayon(crayon)) {
                return NO_SUCH;
            }
            if (!inRange(words, 1, MAX_WORDS)) {
                return OUT_OF_RANGE;
            }
            int verdict = mayMake(from, to);
            if (verdict == FINE && office.desk.crayons[crayon] < crayonNeeded(words)) {
                return refuse(SHORT_CRAYON, crayon);
            }
            return verdict;
        }

        int mayWrap(int from, int to, int a, int b, int c) {
            if (!isChild(from) || !isChild(to)) {
                return NO_SUCH;
            }
            if (!areSides(a, b, c)) {
                return OUT_OF_RANGE;
            }
            int verdict = mayMake(from, to);
            if (verdict == FINE && office.desk.metres < stringNeeded(a, b, c)) {
                return refuse(LITTLE_STRING, (int) office.desk.metres);
            }
            return verdict;
        }

        int mayStamp(int item, int potato) {
            if (!office.items.has(item) || !office.desk.hasPotato(potato)) {
                return NO_SUCH;
            }
            if (office.items.states[item] != MADE) {
                return refuse(NOT_MADE, office.items.states[item]);
            }
            return isStrong(office.desk.printNow(potato)) ? FINE : refuse(WEAK_PRINT, potato);
        }

        int mayShelve(int item, int row) {
            if (!office.items.has(item) || !inRange(row, LETTER, PARCEL)) {
                return NO_SUCH;
            }
            if (office.items.states[item] != STAMPED) {
                return refuse(NOT_STAMPED, office.items.states[item]);
            }
            if (office.shelves.lowestFree(office.items.receivers[item], row) == NONE) {
                return refuse(FULL_ROW, row);
            }
            return office.items.kinds[item] != row ? refuse(OTHER_ROW, row) : FINE;
        }

        int mayTake(int child) {
            if (!isChild(child)) {
                return NO_SUCH;
            }
            return office.shelves.isBare(child) ? refuse(EMPTY_SHELF, child) : FINE;
        }

        int mayFeed(int many) {
            if (!inRange(many, 1, 9)) {
                return OUT_OF_RANGE;
            }
            int left = office.dragon.snacksLeft;
            return left < many ? refuse(FEW_SNACKS, left) : FINE;
        }

        int mayPass(int hours) {
            return inRange(hours, 1, 60) ? FINE : OUT_OF_RANGE;
        }
    }

    /** The offices ahead of the latest changes, in a ring, so that no change makes a new one. */
    private static final class History {
        final Office[] past = new Office[MAX_UNDO];
        int next;
        int count;

        History() {
            for (int place = 0; place < MAX_UNDO; place++) {
                past[place] = new Office();
            }
        }

        void remember(Office office) {
            past[next].copyFrom(office);
            next = (next + 1) % MAX_UNDO;
            count = Math.min(count + 1, MAX_UNDO);
        }

        void bringBack(Office office) {
            next = (next + MAX_UNDO - 1) % MAX_UNDO;
            count--;
            office.copyFrom(past[next]);
        }

        void forget() {
            count = 0;
        }
    }

    /** The input, and the orders that its latest scan found. */
    private static final class OrderText {
        private static final int MAX_NUMBERS = 4;
        // An order and its semicolon take three signs at the least.
        private static final int MAX_ORDERS = MAX_SIGNS / 3 + 1;

        final char[] signs = new char[MAX_SIGNS];
        final int[] kinds = new int[MAX_ORDERS];
        final int[] numbers = new int[MAX_ORDERS * MAX_NUMBERS];
        int length;
        int orders;
        int errorAt = NONE;
        private int at;
        private int numbersFound;

        void add(char sign) {
            signs[length] = sign;
            length++;
        }

        int numberOf(int order, int place) {
            return numbers[order * MAX_NUMBERS + place];
        }

        void scan() {
            at = 0;
            orders = 0;
            errorAt = scanOrders() ? NONE : at;
            length = 0;
        }

        private boolean scanOrders() {
            while (orders < MAX_ORDERS && scanOrder()) {
                orders++;
                if (at == length) {
                    return true;
                }
                if (!scanSign(';')) {
                    return false;
                }
            }
            return false;
        }

        private boolean scanOrder() {
            int kind = at < length ? kindOf(signs[at]) : NONE;
            if (kind == NONE) {
                return false;
            }
            at++;
            kinds[orders] = kind;
            numbersFound = 0;
            String parts = partsOf(kind);
            for (int part = 0; part < parts.length(); part++) {
                if (!scanPart(parts.charAt(part))) {
                    return false;
                }
            }
            return true;
        }

        private static int kindOf(char sign) {
            for (int kind = 0; kind < ORDER_SIGNS.length(); kind++) {
                if (ORDER_SIGNS.charAt(kind) == sign) {
                    return kind;
                }
            }
            return NONE;
        }

        // A d stands for one digit, an n for one or two, all else for itself.
        private static String partsOf(int kind) {
            switch (kind) {
                case WRITE:
                    return "d>d*n/d";
                case STAMP:
                    return "n@d";
                case SHELVE:
                case PASS:
                    return "n";
                default:
                    return "d";
            }
        }

        private boolean scanPart(char part) {
            if (part == 'd') {
                return scanNumber(1);
            }
            return part == 'n' ? scanNumber(2) : scanSign(part);
        }

        private boolean scanSign(char sign) {
            if (at >= length || signs[at] != sign) {
                return false;
            }
            at++;
            return true;
        }

        private boolean scanNumber(int mostDigits) {
            int number = 0;
            int digits = 0;
            while (digits < mostDigits && isDigitNext()) {
                number = number * 10 + (signs[at] - '0');
                at++;
                digits++;
            }
            if (digits > 0 && numbersFound < MAX_NUMBERS) {
                numbers[orders * MAX_NUMBERS + numbersFound] = number;
                numbersFound++;
            }
            return digits > 0;
        }

        private boolean isDigitNext() {
            return at < length && signs[at] >= '0' && signs[at] <= '9';
        }
    }
}
