/** Promises 21 to 31: a test for each sentence that names a boundary. */
final class ShelvesBoundaryTest extends Calls {
    public static void main(String[] args) throws Exception {
        Sentences.runAll(ShelvesBoundaryTest.class);
    }

    /** Five stamped letters and four stamped parcels behind them, all to a child. */
    private static PotatoStamps stampedFor(int child) {
        PotatoStamps x = new PotatoStamps();
        x.crayon(120);
        x.potato();
        x.potato();
        int from = child == 0 ? 1 : 0;
        int[] words = {5, 40, 2, 3, 4};
        for (int item = 0; item < 5; item++) {
            x.letter(from, child, words[item], 0);
        }
        x.string(3);
        for (int item = 5; item < 9; item++) {
            x.parcel(from, child, 1, 1, 1);
        }
        for (int item = 0; item < 9; item++) {
            x.stamp(item, item / 5);
        }
        return x;
    }

    /** All five pigeonholes of a child hold something: the letters 0, 1, 2 and the parcels 5, 6. */
    private static PotatoStamps fullShelfOf(int child) {
        PotatoStamps x = stampedFor(child);
        for (int item : new int[] {0, 1, 2, 5, 6}) {
            x.shelve(item, item / 5);
        }
        return x;
    }

    /** The letter 0 is on the shelf of the child 1, and the dragon has this hunger, a number of halves. */
    private static PotatoStamps shelvedAt(float hunger) {
        PotatoStamps x = new PotatoStamps();
        int hours = 0;
        while (1.5f * (float) hours < hunger || (1.5f * (float) hours - hunger) % 2.0f != 0.0f) {
            hours++;
        }
        if (hours > 0) {
            x.pass(hours);
        }
        if (1.5f * (float) hours > hunger) {
            x.snacks(5);
            x.feed((int) ((1.5f * (float) hours - hunger) / 2.0f));
        }
        Check.floats("hunger", hunger, x.hunger());
        x.potato();
        letters(x, 1);
        shelved(x, 0, 0);
        return x;
    }

    @Sentence(promise = 21, says = "Throws `IndexOutOfBoundsException` if there is no such item or row")
    static void shelveNoSuch() {
        PotatoStamps none = new PotatoStamps();
        raises("no items", NO_SUCH, () -> none.shelve(0, 0));
        PotatoStamps x = stampedFor(1);
        raisesFor(NO_SUCH, n -> x.shelve(n, 0), outside(0, 8));
        raisesFor(NO_SUCH, n -> x.shelve(n, 1), outside(0, 8));
        raisesFor(NO_SUCH, n -> x.shelve(0, n), outside(0, 1));
        raisesFor(NO_SUCH, n -> x.shelve(5, n), outside(0, 1));
        Check.due("on no shelf", 0, x.account(7));
    }

    @Sentence(promise = 21, says = "Each child has a shelf with three pigeonholes for letters, the row 0, and two for parcels, the row 1.")
    static void shelveRows() {
        for (int child = 0; child < 6; child++) {
            PotatoStamps x = stampedFor(child);
            for (int n = 0; n < 3; n++) {
                Check.due("letter", n, x.shelve(n, 0));
            }
            for (int n = 0; n < 2; n++) {
                Check.due("parcel", n, x.shelve(5 + n, 1));
            }
            for (int other = 0; other < 6; other++) {
                for (int hole = 0; hole < 5; hole++) {
                    int due = other != child ? -1 : hole < 3 ? hole : hole + 2;
                    Check.due("pigeonhole " + hole + " of " + other, due, holeOf(x, other, hole));
                }
            }
        }
    }

    @Sentence(promise = 21, says = "A stamped item is put into the lowest free pigeonhole of a row of the shelf of the child to whom it goes.")
    static void shelveLowestFree() {
        PotatoStamps x = fullShelfOf(1);
        Check.due("the worst one, in the middle", 1, x.prey());
        x.pass(QUIET_HOURS + 1);
        Check.due("the one in the middle", 1, x.shelve(3, 0));
        Check.due("there it is", 3, x.inHole(1, 0, 1));
        Check.due("its pigeonhole", 1, x.itemOf(3, 5));
        x.take(1);
        Check.due("the lowest of all", 0, x.shelve(4, 0));
        Check.due("the lowest of all", 0, x.shelve(8, 1));
        Check.due("the next", 1, x.shelve(7, 1));
    }

    @Sentence(promise = 21, says = "7, the item is not stamped: its state;")
    static void shelveNotStamped() {
        PotatoStamps x = sample();
        int[] states = {4, 3, 3, 2, 2, 1, 0, 0};
        for (int item = 0; item < 8; item++) {
            int other = item;
            for (int row = 0; row <= 1 && item != 5; row++) {
                int any = row;
                refuses("item " + item, x, 7, states[item], () -> x.shelve(other, any));
            }
        }
        Check.due("stamped ones alone", 1, x.shelve(5, 0));
    }

    @Sentence(promise = 21, says = "8, the pigeonholes of the row are full: the row;")
    static void shelveFullRow() {
        PotatoStamps x = fullShelfOf(5);
        refuses("a fourth letter", x, 8, 0, () -> x.shelve(3, 0));
        refuses("a third parcel", x, 8, 1, () -> x.shelve(7, 1));
        PotatoStamps y = stampedFor(1);
        for (int item = 0; item < 3; item++) {
            y.shelve(item, 0);
        }
        Check.due("the other row has room", 0, y.shelve(5, 1));
        y.letter(1, 0, 1, 0);
        y.stamp(9, 1);
        Check.due("the other child has room", 0, y.shelve(9, 0));
    }

    @Sentence(promise = 21, says = "9, the row is for the other kind: the row;")
    static void shelveOtherKind() {
        PotatoStamps x = stampedFor(2);
        refuses("a letter", x, 9, 1, () -> x.shelve(0, 1));
        refuses("a parcel", x, 9, 0, () -> x.shelve(5, 0));
        x.shelve(0, 0);
        x.shelve(1, 0);
        x.shelve(5, 1);
        refuses("one is free for letters", x, 9, 0, () -> x.shelve(6, 0));
        refuses("one is free for parcels", x, 9, 1, () -> x.shelve(2, 1));
    }

    @Sentence(promise = 21, says = "A full row is told ahead of a row for the other kind.")
    static void shelveFullAheadOfOther() {
        PotatoStamps x = fullShelfOf(3);
        refuses("a letter among parcels", x, 8, 1, () -> x.shelve(3, 1));
        refuses("a parcel among letters", x, 8, 0, () -> x.shelve(7, 0));
    }

    @Sentence(promise = 21, says = "Throws `UnsupportedOperationException` if it is refused for reason 7, 8 or 9; the reason is kept for refusal")
    static void shelveReasonsInOrder() {
        PotatoStamps x = fullShelfOf(1);
        x.letter(0, 1, 1, 0);
        refuses("made ahead of full", x, 7, 0, () -> x.shelve(9, 0));
        refuses("made ahead of full and other", x, 7, 0, () -> x.shelve(9, 1));
        refuses("on a shelf ahead of full", x, 7, 2, () -> x.shelve(0, 0));
        x.take(1);
        refuses("made ahead of other", x, 7, 0, () -> x.shelve(9, 1));
        refuses("taken ahead of other", x, 7, 3, () -> x.shelve(0, 1));
    }

    @Sentence(promise = 22, says = "Throws `IndexOutOfBoundsException` if there is no such child")
    static void takeNobody() {
        PotatoStamps x = fullShelfOf(5);
        raisesFor(NO_SUCH, n -> x.take(n), outside(0, 5));
        Check.due("still there", 5, x.account(7));
        Check.due("the last child", 5, x.take(5));
        PotatoStamps y = fullShelfOf(0);
        raisesFor(NO_SUCH, n -> y.take(n), outside(0, 5));
        Check.due("the first child", 5, y.take(0));
    }

    @Sentence(promise = 22, says = "10, the shelf is empty: the child;")
    static void takeFromEmpty() {
        PotatoStamps x = fullShelfOf(1);
        for (int child = 0; child < 6; child++) {
            int other = child;
            if (child != 1) {
                refuses("empty", x, 10, child, () -> x.take(other));
            }
        }
        x.take(1);
        refuses("empty again", x, 10, 1, () -> x.take(1));
        PotatoStamps y = new PotatoStamps();
        y.potato();
        letters(y, 2);
        shelved(y, 0, 0);
        y.stamp(1, 0);
        y.pass(QUIET_HOURS + 1);
        refuses("all eaten", y, 10, 1, () -> y.take(1));
    }

    @Sentence(promise = 22, says = "Throws `UnsupportedOperationException` if it is refused for reason 10; the reason is kept for refusal")
    static void takeRefused() {
        PotatoStamps x = stampedFor(3);
        refuses("stamped ones are on no shelf", x, 10, 3, () -> x.take(3));
        refuses("not even for this one", x, 10, 4, () -> x.take(4));
        x.shelve(0, 0);
        Check.due("one is enough", 1, x.take(3));
        Check.due("the reason is kept", "10 4", refusalOf(x));
        Check.due("nothing taken by the refused ones", 1, x.account(8));
    }

    @Sentence(promise = 22, says = "When a child takes, all items in its pigeonholes are taken, letters first, by the pigeonholes.")
    static void takeAll() {
        PotatoStamps full = fullShelfOf(4);
        Check.due("all five", 5, full.take(4));
        Check.due("no more on shelves", 0, full.account(7));
        Check.due("taken", 5, full.account(8));
        Check.due("the others are stamped still", 4, full.account(6));
        PotatoStamps last = stampedFor(1);
        last.shelve(5, 1);
        Check.due("a parcel alone", 1, last.take(1));
        last.shelve(0, 0);
        Check.due("a letter alone", 1, last.take(1));
        PotatoStamps gap = fullShelfOf(1);
        gap.pass(QUIET_HOURS + 1);
        Check.due("with a gap", 4, gap.take(1));
        Check.due("eaten is not taken", 4, gap.itemOf(1, 4));
    }

    @Sentence(promise = 22, says = "An item that is taken or eaten is on no shelf.")
    static void takenOnNoShelf() {
        PotatoStamps x = fullShelfOf(1);
        x.pass(QUIET_HOURS + 1);
        Check.due("eaten", -1, x.itemOf(1, 5));
        Check.due("its pigeonhole", -1, holeOf(x, 1, 1));
        x.take(1);
        for (int hole = 0; hole < 5; hole++) {
            Check.due("pigeonhole", -1, holeOf(x, 1, hole));
        }
        for (int item = 0; item < 9; item++) {
            Check.due("item " + item, -1, x.itemOf(item, 5));
        }
        raises("nothing to eat", NONE, () -> x.prey());
        Check.due("on shelves", 0, x.account(7));
    }

    @Sentence(promise = 23, says = "Throws `IndexOutOfBoundsException` if there is no such child, row or pigeonhole")
    static void inHoleNoSuch() {
        for (PotatoStamps x : new PotatoStamps[] {new PotatoStamps(), fullShelfOf(0), fullShelfOf(5)}) {
            raisesFor(NO_SUCH, n -> x.inHole(n, 0, 0), outside(0, 5));
            raisesFor(NO_SUCH, n -> x.inHole(0, n, 0), outside(0, 1));
            raisesFor(NO_SUCH, n -> x.inHole(0, 0, n), outside(0, 2));
            raisesFor(NO_SUCH, n -> x.inHole(0, 1, n), outside(0, 1));
            raisesFor(NO_SUCH, n -> x.inHole(5, 0, n), outside(0, 2));
            raisesFor(NO_SUCH, n -> x.inHole(5, 1, n), outside(0, 1));
        }
    }

    @Sentence(promise = 23, says = "Throws `NoSuchElementException` if it is empty")
    static void inHoleEmpty() {
        PotatoStamps x = fullShelfOf(2);
        x.letter(0, 3, 1, 0);
        x.parcel(0, 3, 1, 1, 1);
        shelved(x, 9, 1);
        shelved(x, 10, 1);
        for (int child = 0; child < 6; child++) {
            for (int hole = 0; hole < 5; hole++) {
                int who = child;
                int place = hole;
                if (child != 2 && (child != 3 || hole % 3 != 0)) {
                    raises("pigeonhole", NONE, () -> x.inHole(who, place / 3, place % 3));
                }
            }
        }
        int[] due = {0, 1, 2, 5, 6};
        for (int hole = 0; hole < 5; hole++) {
            Check.due("pigeonhole " + hole, due[hole], x.inHole(2, hole / 3, hole % 3));
        }
        Check.due("letter", 9, x.inHole(3, 0, 0));
        Check.due("parcel", 10, x.inHole(3, 1, 0));
    }

    @Sentence(promise = 24, says = "Throws `IndexOutOfBoundsException` if there is no such child")
    static void readNobody() {
        PotatoStamps x = new PotatoStamps();
        raisesFor(NO_SUCH, n -> x.read(n), outside(0, 5));
        for (int child = 0; child < 6; child++) {
            Check.due("none yet", 0, x.read(child));
        }
    }

    @Sentence(promise = 24, says = "Returns how many letters a child took so far.")
    static void readSoFar() {
        for (int child = 0; child < 6; child += 5) {
            PotatoStamps x = fullShelfOf(child);
            Check.due("none yet", 0, x.read(child));
            x.pass(QUIET_HOURS + 1);
            Check.due("eaten ones do not count", 0, x.read(child));
            x.take(child);
            Check.due("letters alone", 2, x.read(child));
            x.shelve(7, 1);
            x.take(child);
            Check.due("no parcels", 2, x.read(child));
            x.shelve(3, 0);
            x.shelve(4, 0);
            x.take(child);
            Check.due("so far", 4, x.read(child));
            Check.due("not the other one", 0, x.read(5 - child));
            x.undo();
            Check.due("undone", 2, x.read(child));
        }
    }

    @Sentence(promise = 25, says = "Throws `IllegalArgumentException` if the number is out of range")
    static void snacksOutOfRange() {
        PotatoStamps x = new PotatoStamps();
        raisesFor(OUT_OF_RANGE, n -> x.snacks(n), outside(1, 20));
        Check.due("snacks", 0, x.account(10));
    }

    @Sentence(promise = 25, says = "`many`: how many, 1 to 20")
    static void snacksEnds() {
        PotatoStamps x = new PotatoStamps();
        Check.due("1", 1, x.snacks(1));
        Check.due("20", 21, x.snacks(20));
    }

    @Sentence(promise = 25, says = "Brings snacks; what would be more than 50 is not brought.")
    static void snacksFull() {
        PotatoStamps x = new PotatoStamps();
        x.snacks(20);
        Check.due("nearly", 39, x.snacks(19));
        Check.due("nearly", 49, x.snacks(10));
        Check.due("just full", 50, x.snacks(1));
        Check.due("full", 50, x.snacks(1));
        Check.due("full", 50, x.snacks(20));
        Check.due("snacks", 50, x.account(10));
        Check.due("each a change", 6, x.account(14));
        x.feed(1);
        Check.due("a part of it", 50, x.snacks(20));
    }

    @Sentence(promise = 26, says = "Throws `IllegalArgumentException` if the number is out of range")
    static void feedOutOfRange() {
        PotatoStamps x = new PotatoStamps();
        x.snacks(20);
        raisesFor(OUT_OF_RANGE, n -> x.feed(n), outside(1, 9));
        Check.due("snacks", 20, x.account(10));
    }

    @Sentence(promise = 26, says = "`many`: how many snacks, 1 to 9")
    static void feedEnds() {
        PotatoStamps x = new PotatoStamps();
        x.snacks(20);
        x.pass(60);
        Check.bits("1", 88.0f, x.feed(1));
        Check.bits("9", 70.0f, x.feed(9));
        Check.due("snacks", 10, x.account(10));
        Check.due("fed", 10, x.account(11));
    }

    @Sentence(promise = 26, says = "11, there are too few snacks: how many there are.")
    static void feedTooFew() {
        PotatoStamps x = new PotatoStamps();
        refuses("none", x, 11, 0, () -> x.feed(1));
        for (int there = 1; there < 9; there++) {
            x.snacks(1);
            int more = there + 1;
            refuses("one too few", x, 11, there, () -> x.feed(more));
        }
        Check.due("nothing fed", 0, x.account(11));
        Check.bits("just enough", 0.0f, x.feed(8));
        refuses("none again", x, 11, 0, () -> x.feed(1));
    }

    @Sentence(promise = 26, says = "Throws `UnsupportedOperationException` if it is refused for reason 11; the reason is kept for refusal")
    static void feedRefused() {
        PotatoStamps x = new PotatoStamps();
        x.pass(4);
        x.snacks(8);
        refuses("the most that can be fed", x, 11, 8, () -> x.feed(9));
        Check.bits("the most that there are", 0.0f, x.feed(8));
        Check.due("the reason is kept", "11 8", refusalOf(x));
        refuses("the least that can be fed", x, 11, 0, () -> x.feed(1));
        Check.due("fed", 8, x.account(11));
    }

    @Sentence(promise = 26, says = "A snack makes its hunger 2.0f less, but at least 0.0f")
    static void feedAtLeastNought() {
        for (int hours = 0; hours <= 8; hours++) {
            PotatoStamps x = new PotatoStamps();
            x.snacks(9);
            if (hours > 0) {
                x.pass(hours);
            }
            float due = 1.5f * (float) hours;
            for (int snack = 0; snack < 7; snack++) {
                due = due < 2.0f ? 0.0f : due - 2.0f;
                Check.bits("a snack", due, x.feed(1));
                Check.floats("hunger", due, x.hunger());
            }
        }
    }

    @Sentence(promise = 26, says = "there are from 0 to 50 snacks, at first none")
    static void snacksAtFirst() {
        PotatoStamps x = new PotatoStamps();
        Check.due("at first", 0, x.account(10));
        x.snacks(3);
        x.feed(3);
        Check.due("all gone", 0, x.account(10));
        Check.due("from none", 20, x.snacks(20));
    }

    @Sentence(promise = 26, says = "Snacks are eaten one after the other.")
    static void snacksOneAfterTheOther() {
        PotatoStamps x = new PotatoStamps();
        x.snacks(9);
        x.pass(5);
        Check.bits("7.5f, four snacks", 0.0f, x.feed(4));
        Check.due("all are eaten, also those too many", 5, x.account(10));
        x.pass(1);
        Check.bits("1.5f, five snacks", 0.0f, x.feed(5));
        Check.due("fed", 9, x.account(11));
    }

    @Sentence(promise = 27, says = "It has a hunger, a float, at first 0.0f.")
    static void hungerAtFirst() {
        PotatoStamps x = new PotatoStamps();
        Check.floats("at first", 0.0f, x.hunger());
        x.pass(1);
        Check.floats("an hour", 1.5f, x.hunger());
        x.undo();
        Check.floats("undone", 0.0f, x.hunger());
    }

    @Sentence(promise = 28, says = "Throws `NoSuchElementException` if there is none on a shelf")
    static void preyNone() {
        PotatoStamps x = stampedFor(1);
        raises("stamped alone", NONE, () -> x.prey());
        x.shelve(5, 1);
        raises("a parcel", NONE, () -> x.prey());
        x.shelve(3, 0);
        Check.due("the only one", 3, x.prey());
        x.undo();
        raises("undone", NONE, () -> x.prey());
        x.shelve(3, 0);
        x.pass(QUIET_HOURS + 1);
        raises("eaten", NONE, () -> x.prey());
        x.shelve(4, 0);
        x.take(1);
        raises("taken", NONE, () -> x.prey());
        PotatoStamps y = new PotatoStamps();
        raises("no items", NONE, () -> y.prey());
    }

    /** Letters that can be read alike, with the higher numbers going to the lower children. */
    private static PotatoStamps alike() {
        PotatoStamps x = new PotatoStamps();
        x.potato();
        for (int n = 0; n < 4; n++) {
            x.crayon(50);
            x.letter(0, 5 - n, 20, n);
        }
        x.letter(0, 5, 1, 0);
        for (int item = 4; item >= 0; item--) {
            shelved(x, item, 0);
        }
        return x;
    }

    @Sentence(promise = 28, says = "it eats the letter on a shelf that can be read worst, of several the one with the lowest number, if there is one")
    static void preyTies() {
        PotatoStamps x = alike();
        Check.due("the lowest", 0, x.prey());
        x.take(5);
        Check.due("the next", 1, x.prey());
        x.take(4);
        x.take(3);
        Check.due("the last", 3, x.prey());
    }

    @Sentence(promise = 29, says = "Throws `NoSuchElementException` if there is no letter on a shelf")
    static void eatsInNone() {
        PotatoStamps x = stampedFor(1);
        x.pass(60);
        raises("stamped alone", NONE, () -> x.eatsIn());
        x.shelve(5, 1);
        raises("a parcel", NONE, () -> x.eatsIn());
        x.shelve(0, 0);
        Check.due("one hour", 1, x.eatsIn());
        x.take(1);
        raises("taken", NONE, () -> x.eatsIn());
        x.shelve(3, 0);
        x.pass(1);
        raises("eaten", NONE, () -> x.eatsIn());
    }

    @Sentence(promise = 29, says = "The dragon eats behind one hour at the earliest.")
    static void eatsInOneHour() {
        Check.due("hungry long since", 1, shelvedAt(90.0f).eatsIn());
        Check.due("8.5f", 1, shelvedAt(8.5f).eatsIn());
        Check.due("8.0f", 1, shelvedAt(8.0f).eatsIn());
        Check.due("7.0f", 1, shelvedAt(7.0f).eatsIn());
        PotatoStamps x = shelvedAt(90.0f);
        Check.due("not yet eaten", 2, x.itemOf(0, 4));
        Check.due("an hour later", 1, x.pass(1));
    }

    @Sentence(promise = 29, says = "Returns in how many hours the dragon eats the next letter, if only hours go by.")
    static void eatsInHours() {
        for (int half = 0; half <= 30; half++) {
            PotatoStamps x = shelvedAt(0.5f * (float) half);
            int due = 1;
            for (float hunger = 0.5f * (float) half + 1.5f; hunger <= 8.0f; hunger += 1.5f) {
                due++;
            }
            Check.due("from " + half + " halves", due, x.eatsIn());
            if (due > 1) {
                Check.due("nothing until then", 0, x.pass(due - 1));
            }
            Check.due("one hour then", 1, x.eatsIn());
            Check.due("eaten then", 1, x.pass(1));
        }
    }

    @Sentence(promise = 30, says = "Throws `IllegalArgumentException` if the number is out of range")
    static void passOutOfRange() {
        PotatoStamps x = new PotatoStamps();
        raisesFor(OUT_OF_RANGE, n -> x.pass(n), outside(1, 60));
        Check.due("hour", 0, x.account(0));
    }

    @Sentence(promise = 30, says = "`hours`: how many, 1 to 60")
    static void passEnds() {
        PotatoStamps x = new PotatoStamps();
        Check.due("1", 0, x.pass(1));
        Check.due("hour", 1, x.account(0));
        Check.due("60", 0, x.pass(60));
        Check.due("hour", 61, x.account(0));
        Check.floats("hunger", 91.5f, x.hunger());
    }

    @Sentence(promise = 30, says = "if the hunger is above 8.0f then")
    static void passJustNotHungry() {
        PotatoStamps x = shelvedAt(6.5f);
        Check.due("8.0f is not above", 0, x.pass(1));
        Check.floats("hunger", 8.0f, x.hunger());
        Check.due("on the shelf", 2, x.itemOf(0, 4));
        Check.due("9.5f is above", 1, x.pass(1));
        PotatoStamps y = shelvedAt(7.0f);
        Check.due("8.5f is above", 1, y.pass(1));
        Check.floats("hunger", 3.5f, y.hunger());
    }

    @Sentence(promise = 30, says = "When an hour goes by, its hunger becomes 1.5f more")
    static void passHungrierFirst() {
        PotatoStamps x = shelvedAt(0.0f);
        for (int hour = 1; hour <= 5; hour++) {
            Check.due("nothing eaten", 0, x.pass(1));
            Check.floats("hunger", 1.5f * (float) hour, x.hunger());
        }
        Check.due("the hour makes it hungry enough", 1, x.pass(1));
        Check.floats("hunger", 9.0f - 5.0f, x.hunger());
    }

    @Sentence(promise = 30, says = "if there is one; when it eats one, its hunger becomes 5.0f less")
    static void passNothingToEat() {
        PotatoStamps x = stampedFor(1);
        x.shelve(5, 1);
        Check.due("no letter", 0, x.pass(6));
        Check.floats("not less", 9.0f, x.hunger());
        Check.due("the parcel stays", 2, x.itemOf(5, 4));
        x.shelve(0, 0);
        Check.due("a letter", 1, x.pass(1));
        Check.floats("less", 10.5f - 5.0f, x.hunger());
        Check.due("no letter again", 0, x.pass(2));
        Check.floats("not less", 8.5f, x.hunger());
    }

    @Sentence(promise = 30, says = "it eats the letter on a shelf that can be read worst, of several the one with the lowest number")
    static void passTies() {
        PotatoStamps x = alike();
        x.pass(QUIET_HOURS);
        for (int eaten = 0; eaten < 5; eaten++) {
            for (int hour = 0; hour < 5 && x.account(9) == eaten; hour++) {
                x.pass(1);
            }
            Check.due("eaten so far", eaten + 1, x.account(9));
            Check.due("the next", 4, x.itemOf(eaten, 4));
        }
    }

    @Sentence(promise = 30, says = "The dragon eats one letter in an hour at most.")
    static void passOneInAnHour() {
        PotatoStamps x = new PotatoStamps();
        x.pass(60);
        x.potato();
        letters(x, 3);
        for (int item = 0; item < 3; item++) {
            shelved(x, item, 0);
        }
        Check.due("one", 1, x.pass(1));
        Check.floats("hunger", 90.0f + 1.5f - 5.0f, x.hunger());
        Check.due("two", 2, x.pass(2));
        Check.due("all eaten", 3, x.account(9));
        Check.due("no more", 0, x.pass(60));
    }

    @Sentence(promise = 30, says = "Then the next hour begins.")
    static void passManyHours() {
        PotatoStamps once = alike();
        PotatoStamps often = alike();
        int eaten = 0;
        for (int hour = 1; hour <= 20; hour++) {
            eaten += often.pass(1);
            Check.due("hour", hour, often.account(0));
        }
        Check.due("in all", eaten, once.pass(20));
        Check.due("hour", 20, once.account(0));
        Check.floats("hunger", often.hunger(), once.hunger());
        Check.due("the same", picture(often), picture(once));
    }

    @Sentence(promise = 31, says = "Throws `IndexOutOfBoundsException` if there is no such item")
    static void signNoSuch() {
        PotatoStamps x = new PotatoStamps();
        raisesFor(NO_SUCH, n -> x.sign(n), 0, -1);
        letters(x, 20);
        raisesFor(NO_SUCH, n -> x.sign(n), outside(0, 19));
        Check.due("the last", 'm', x.sign(19));
        x.undo();
        raisesFor(NO_SUCH, n -> x.sign(n), 19);
    }

    @Sentence(promise = 31, says = "Returns \"m\" if it is made, \"s\" stamped, \"h\" on a shelf, \"t\" taken, \"e\" eaten, as a capital letter for a parcel.")
    static void signs() {
        PotatoStamps x = sample();
        dueSigns("all", x, "etThHsMm");
        x.stamp(6, 0);
        dueSigns("a stamped parcel", x, "etThHsSm");
    }
}
