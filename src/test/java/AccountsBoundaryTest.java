import java.util.ArrayDeque;
import java.util.Deque;
import java.util.function.Consumer;

/** Promises 35 to 41: a test for each sentence that names a boundary. */
final class AccountsBoundaryTest extends Calls {
    public static void main(String[] args) throws Exception {
        Sentences.runAll(AccountsBoundaryTest.class);
    }

    @Sentence(promise = 35, says = "Throws `NoSuchElementException` if nothing was refused")
    static void refusalOfNothing() {
        PotatoStamps x = new PotatoStamps();
        raises("reason", NONE, () -> x.refusal(false));
        raises("detail", NONE, () -> x.refusal(true));
        raises("out of range is not refused", OUT_OF_RANGE, () -> x.feed(0));
        raises("no such thing is not refused", NO_SUCH, () -> x.take(6));
        raises("nothing to undo is not refused", NOT_NOW, () -> x.undo());
        raises("no potato is not refused", NONE, () -> x.best());
        runRaises(x, "p0");
        runRaises(x, "p");
        x.crayon(10);
        raises("reason", NONE, () -> x.refusal(false));
        raises("detail", NONE, () -> x.refusal(true));
        raises("empty", REFUSED, () -> x.take(0));
        Check.due("reason", 10, x.refusal(false));
        Check.due("a detail of 0", 0, x.refusal(true));
    }

    @Sentence(promise = 35, says = "Returns the reason of the latest refusal.")
    static void refusalLatest() {
        PotatoStamps x = new PotatoStamps();
        refuses("first", x, 10, 4, () -> x.take(4));
        refuses("second", x, 11, 0, () -> x.feed(1));
        refuses("third", x, 10, 5, () -> x.take(5));
        runRefuses("in a text", x, "p1;f3", 11, 0);
        refuses("of a lower number", x, 2, 1, () -> x.parcel(1, 1, 1, 1, 1));
        x.snacks(3);
        runRefuses("a later order", x, "f1;f1;f2", 11, 1);
        Check.due("stays", "11 1", refusalOf(x));
        Check.due("stays when it is asked", "11 1", refusalOf(x));
    }

    @Sentence(promise = 35, says = "1, there are 8 crayons, 20 items or 5 potatoes: this number;")
    static void refusalFull() {
        PotatoStamps x = fullSample();
        refuses("crayons", x, 1, 8, () -> x.crayon(10));
        refuses("potatoes", x, 1, 5, () -> x.potato());
        refuses("letters", x, 1, 20, () -> x.letter(0, 1, 1, 0));
        refuses("potatoes", x, 1, 5, () -> x.potato());
        refuses("parcels", x, 1, 20, () -> x.parcel(0, 1, 1, 1, 1));
    }

    @Sentence(promise = 35, says = "2, both children are the same: the child;")
    static void refusalSame() {
        PotatoStamps x = sample();
        for (int child = 0; child < 6; child++) {
            int same = child;
            refuses("letter", x, 2, child, () -> x.letter(same, same, 1, 0));
            refuses("parcel", x, 2, child, () -> x.parcel(same, same, 1, 1, 1));
        }
    }

    @Sentence(promise = 36, says = "Throws `IllegalArgumentException` if what is not from 0 to 14")
    static void accountOutOfRange() {
        PotatoStamps x = new PotatoStamps();
        raisesFor(OUT_OF_RANGE, n -> x.account(n), outside(0, 14));
        for (int what = 0; what <= 14; what++) {
            Check.due("account " + what, 0, x.account(what));
        }
    }

    @Sentence(promise = 36, says = "`what`: 0 for the hour, 1 for the crayons, 2 for the items, 3 for the letters, 4 for the potatoes, 5 to 9 for the items with the states 0 to 4, 10 for the snacks, 11 for the snacks fed so far, 12 for the words of all letters, 13 for the characters in the input, 14 for the changes that can be undone")
    static void accountsFull() {
        PotatoStamps x = fullSample();
        x.ink(1);
        x.ink(1);
        type(x, filler(58));
        int words = 30 + 3 + 9 + 1 + 20 + 12;
        int[] due = {8, 8, 20, 17, 5, 14, 1, 2, 2, 1, 7, 3, words, 60, 8};
        for (int what = 0; what <= 14; what++) {
            Check.due("account " + what, due[what], x.account(what));
        }
    }

    @Sentence(promise = 37, says = "Tells, by a second way, whether all is well: each item on a shelf is in a pigeonhole of the child to whom it goes, and in the row for its kind, the eaten ones are letters, and each letter that was taken was read by the child that it names.")
    static void wellThroughout() {
        PotatoStamps x = fullSample();
        Check.due("a full office", true, x.isWell());
        for (int item = 8; item < 12; item++) {
            shelvedOrRefused(x, item, 2);
            Check.due("a row gets full", true, x.isWell());
        }
        x.pass(60);
        Check.due("all are eaten", true, x.isWell());
        x.take(5);
        Check.due("the parcel is taken", true, x.isWell());
        for (int n = 0; n < 8; n++) {
            x.undo();
            Check.due("undone", true, x.isWell());
        }
        x.restore();
        Check.due("restored", true, x.isWell());
        Check.due("a new one", true, new PotatoStamps().isWell());
        for (int child = 0; child < 6; child++) {
            PotatoStamps y = new PotatoStamps();
            y.crayon(10);
            y.potato();
            y.letter((child + 1) % 6, child, 1, 0);
            y.parcel((child + 1) % 6, child, 1, 1, 1);
            shelved(y, 0, 0);
            shelved(y, 1, 0);
            Check.due("on the shelf of " + child, true, y.isWell());
            y.take(child);
            Check.due("taken by " + child, true, y.isWell());
        }
    }

    private static void shelvedOrRefused(PotatoStamps x, int item, int potato) {
        x.stamp(item, potato);
        outcome(() -> x.shelve(item, 0));
    }

    @Sentence(promise = 38, says = "Throws `ArithmeticException` if there are none")
    static void meanOfNone() {
        PotatoStamps x = new PotatoStamps();
        raises("no items", ArithmeticException.class, () -> x.meanBits());
        x.parcel(0, 1, 1, 1, 1);
        raises("parcels alone", ArithmeticException.class, () -> x.meanBits());
        letters(x, 1);
        Check.due("the only one", Double.doubleToLongBits((double) Float.intBitsToFloat(x.reads(1))), x.meanBits());
        x.undo();
        raises("no letter again", ArithmeticException.class, () -> x.meanBits());
    }

    @Sentence(promise = 38, says = "the sum, by their numbers, as doubles, beginning with 0.0, divided by their number as a double.")
    static void meanOfAll() {
        PotatoStamps x = new PotatoStamps();
        x.crayon(120);
        x.potato();
        double sum = 0.0;
        int letters = 0;
        for (int item = 0; item < 20; item++) {
            if (item % 7 == 3) {
                x.parcel(0, 1, 1, 1, 1);
            } else {
                x.letter(0, 1, 1 + 2 * (item % 5), 0);
                sum = sum + (double) Float.intBitsToFloat(x.reads(item));
                letters++;
            }
            Check.due("of " + letters, Double.doubleToLongBits(sum / (double) letters), x.meanBits());
        }
        shelved(x, 0, 0);
        x.pass(QUIET_HOURS + 1);
        Check.due("also those eaten", Double.doubleToLongBits(sum / (double) letters), x.meanBits());
    }

    @Sentence(promise = 39, says = "Throws `IllegalStateException` if no change can be undone")
    static void undoNothing() {
        PotatoStamps x = new PotatoStamps();
        raises("a new one", NOT_NOW, () -> x.undo());
        x.snacks(1);
        Check.due("the only change", 0, x.undo());
        raises("no more", NOT_NOW, () -> x.undo());
        Check.due("snacks", 0, x.account(10));
        for (int n = 1; n <= 20; n++) {
            x.snacks(1);
        }
        for (int left = 7; left >= 0; left--) {
            Check.due("left", left, x.undo());
        }
        raises("no more", NOT_NOW, () -> x.undo());
        Check.due("snacks", 12, x.account(10));
    }

    @Sentence(promise = 39, says = "The latest 8 can be undone; restore forgets all.")
    static void undoEight() {
        for (int changes = 0; changes <= 20; changes++) {
            PotatoStamps x = new PotatoStamps();
            x.save();
            for (int n = 1; n <= changes; n++) {
                x.pass(1);
                Check.due("can be undone", Math.min(n, 8), x.account(14));
            }
            for (int undone = 1; undone <= Math.min(changes, 8); undone++) {
                Check.due("can still be undone", Math.min(changes, 8) - undone, x.undo());
                Check.due("hour", changes - undone, x.account(0));
            }
            raises("no more", NOT_NOW, () -> x.undo());
            x.pass(1);
            x.restore();
            Check.due("forgotten", 0, x.account(14));
            raises("forgotten", NOT_NOW, () -> x.undo());
        }
    }

    /** Held against a list of its own, over many ups and downs. */
    @Sentence(promise = 39, says = "Undoes the latest change.")
    static void undoUpAndDown() {
        PotatoStamps x = new PotatoStamps();
        Deque<Integer> past = new ArrayDeque<>();
        int hour = 0;
        for (int n = 0; n < 160; n++) {
            if (n % 7 < 3 + n / 40 && n % 11 != 4) {
                past.addLast(hour);
                hour += n % 60 + 1;
                x.pass(n % 60 + 1);
                if (past.size() > 8) {
                    past.removeFirst();
                }
            } else if (!past.isEmpty()) {
                hour = past.removeLast();
                Check.due("left", past.size(), x.undo());
            } else {
                raises("none left", NOT_NOW, () -> x.undo());
            }
            Check.due("hour", hour, x.account(0));
            Check.due("changes", past.size(), x.account(14));
        }
    }

    @Sentence(promise = 39, says = "The changes are the successful calls of crayon, letter, parcel, string, potato, ink, stamp, shelve, take, snacks, feed, pass and run, also if nothing is different then.")
    static void undoEachChange() {
        for (Consumer<PotatoStamps> change : changes()) {
            PotatoStamps x = emptied(sample());
            change.accept(x);
            Check.due("one change", 8, x.account(14));
            Check.due("undone", 7, x.undo());
            Check.due("as it was", picture(emptied(sample())), picture(x));
            PotatoStamps y = emptied(sample());
            change.accept(y);
            Check.due("different until then", false, shortPicture(y).equals(shortPicture(emptied(sample()))));
        }
    }

    private static Iterable<Consumer<PotatoStamps>> changes() {
        return java.util.List.of(x -> x.crayon(10), x -> x.letter(0, 1, 2, 0), x -> x.parcel(0, 1, 1, 1, 1),
            x -> x.string(3), x -> x.potato(), x -> x.ink(3), x -> x.stamp(6, 0), x -> x.shelve(5, 0), x -> x.take(4),
            x -> x.take(5), x -> x.snacks(2), x -> x.feed(1), x -> x.pass(9), x -> runText(x, "p2;f1;h5;t4;s6@0"));
    }

    // An undo would take the change itself back, so that the metres are told by what string answers.
    private static String shortPicture(PotatoStamps x) {
        return x.string(1) + " " + picture(x);
    }

    @Sentence(promise = 39, says = "also if nothing is different then.")
    static void undoNothingDifferent() {
        PotatoStamps x = new PotatoStamps();
        for (int n = 0; n < 5; n++) {
            x.string(20);
        }
        for (int n = 0; n < 3; n++) {
            x.snacks(20);
        }
        x.ink(50);
        x.ink(50);
        x.save();
        x.restore();
        Check.bits("full of string", 99.0f, x.string(20));
        Check.due("a change", 1, x.account(14));
        Check.due("full of snacks", 50, x.snacks(20));
        Check.due("a change", 2, x.account(14));
        Check.bits("full of ink", 9.0f, x.ink(50));
        Check.due("a change", 3, x.account(14));
        Check.due("undone", 2, x.undo());
        Check.due("undone", 1, x.undo());
        Check.due("undone", 0, x.undo());
        Check.floats("ink", 9.0f, x.inkNow());
        Check.due("snacks", 50, x.account(10));
    }

    @Sentence(promise = 39, says = "The changes are the successful calls")
    static void undoNoOtherCalls() {
        PotatoStamps x = sample();
        x.save();
        x.append('x');
        x.crayonOf(0);
        x.itemOf(0, 0);
        x.reads(0);
        x.stringFor(1, 1, 1);
        x.lettersOf(0, 1);
        x.lettersAgain(0, 1);
        x.ranked(0);
        x.firmness(0);
        x.print(0);
        x.stampsOf(0);
        x.best();
        x.inkNow();
        x.inHole(4, 0, 0);
        x.read(0);
        x.hunger();
        x.prey();
        x.eatsIn();
        x.sign(0);
        x.errorPosition();
        x.refusal(true);
        x.isWell();
        x.meanBits();
        raises("not carried out", OUT_OF_RANGE, () -> x.run());
        Check.due("no changes", 7, x.account(14));
    }

    @Sentence(promise = 39, says = "of crayon, letter, parcel, string, potato, ink, stamp, shelve, take, snacks, feed, pass and run")
    static void undoSuccessfulAlone() {
        PotatoStamps x = emptied(fullSample());
        x.snacks(1);
        Check.due("eight", 8, x.account(14));
        raises("crayon", REFUSED, () -> x.crayon(10));
        raises("letter", REFUSED, () -> x.letter(0, 1, 1, 0));
        raises("parcel", REFUSED, () -> x.parcel(0, 1, 1, 1, 1));
        raises("string", OUT_OF_RANGE, () -> x.string(0));
        raises("potato", REFUSED, () -> x.potato());
        raises("ink", OUT_OF_RANGE, () -> x.ink(0));
        raises("stamp", REFUSED, () -> x.stamp(5, 0));
        raises("shelve", REFUSED, () -> x.shelve(6, 1));
        raises("take", REFUSED, () -> x.take(3));
        raises("snacks", OUT_OF_RANGE, () -> x.snacks(21));
        raises("feed", REFUSED, () -> x.feed(9));
        raises("pass", OUT_OF_RANGE, () -> x.pass(61));
        runRaises(x, "p1;p0");
        runRefuses("run", x, "p1;t3", 10, 3);
        for (int left = 7; left >= 0; left--) {
            Check.due("none of them pushed a change out", left, x.undo());
        }
        PotatoStamps due = emptied(fullSample());
        for (int n = 0; n < 7; n++) {
            due.undo();
        }
        Check.due("as it was ahead of all", picture(due), picture(x));
    }

    @Sentence(promise = 40, says = "Takes a snapshot of what changes can change, in place of an earlier one.")
    static void saveInPlace() {
        PotatoStamps x = new PotatoStamps();
        Check.due("no items", 0, x.save());
        letters(x, 20);
        Check.due("all items", 20, x.save());
        x.undo();
        Check.due("one undone", 19, x.account(2));
        Check.due("the later one", 20, x.restore());
        Check.due("items", 20, x.account(2));
        Check.due("save forgets no change", 0, x.account(14));
        x.pass(1);
        x.save();
        Check.due("save forgets no change", 1, x.account(14));
        Check.due("nor undoes one", 0, x.undo());
        Check.due("hour", 0, x.account(0));
        x.restore();
        Check.due("undo changes no snapshot", 1, x.account(0));
    }

    @Sentence(promise = 41, says = "Throws `IllegalStateException` if there is no snapshot")
    static void restoreNothing() {
        PotatoStamps x = new PotatoStamps();
        raises("a new one", NOT_NOW, () -> x.restore());
        x.pass(1);
        raises("not saved", NOT_NOW, () -> x.restore());
        Check.due("hour", 1, x.account(0));
        Check.due("changes", 1, x.account(14));
        Check.due("save", 0, x.save());
        Check.due("saved", 0, x.restore());
        Check.due("as long as it likes", 0, x.restore());
    }

    @Sentence(promise = 41, says = "Makes everything that changes can change as it is in the snapshot, which stays.")
    static void restoreStays() {
        for (int times = 1; times <= 3; times++) {
            PotatoStamps x = emptied(sample());
            x.save();
            for (int n = 0; n < times; n++) {
                x.crayon(99);
                x.potato();
                x.ink(9);
                x.string(5);
                letters(x, 2);
                x.parcel(0, 5, 1, 1, 1);
                shelved(x, 7, 0);
                shelved(x, 8, 2);
                x.take(0);
                x.snacks(4);
                x.feed(3);
                x.pass(9);
                Check.due("items", 8, x.restore());
                Check.due("no changes", 0, x.account(14));
            }
            PotatoStamps due = emptied(sample());
            due.save();
            due.restore();
            Check.due("as it was", picture(due), picture(x));
        }
    }

    @Sentence(promise = 41, says = "Makes everything that changes can change as it is in the snapshot")
    static void restoreUpwards() {
        PotatoStamps x = emptied(sample());
        x.letter(0, 1, 1, 0);
        x.save();
        for (int n = 0; n < 8; n++) {
            x.undo();
        }
        Check.due("fewer items", 8, x.account(2));
        Check.due("the hour ahead", 6, x.account(0));
        Check.due("more items again", 9, x.restore());
        Check.due("the hour again", 8, x.account(0));
        Check.due("stamped again", 1, x.itemOf(5, 4));
        Check.due("the letter again", 1, x.itemOf(8, 3));
    }

    /** Numbers that were given away again behind an undo. */
    @Sentence(promise = 41, says = "Returns the items.")
    static void restoreOtherItems() {
        PotatoStamps x = new PotatoStamps();
        x.crayon(120);
        x.potato();
        x.letter(2, 5, 7, 0);
        x.stamp(0, 0);
        x.shelve(0, 0);
        x.parcel(3, 4, 1, 2, 3);
        Check.due("saved", 2, x.save());
        String before = picture(x);
        for (int n = 0; n < 4; n++) {
            x.undo();
        }
        x.parcel(1, 0, 2, 1, 1);
        x.letter(4, 3, 9, 0);
        x.letter(4, 3, 9, 0);
        shelved(x, 0, 0);
        dueItem("number 0 again", x, 0, new int[] {1, 1, 0, 4, 2, 0, 0});
        dueItem("number 1 again", x, 1, new int[] {0, 4, 3, 9, 0, -1, -1});
        Check.due("restored", 2, x.restore());
        Check.due("as it was", before, picture(x));
        dueItem("the letter", x, 0, new int[] {0, 2, 5, 7, 2, 0, 0});
        dueItem("the parcel", x, 1, new int[] {1, 3, 4, 6, 0, -1, -1});
    }

    @Sentence(promise = 41, says = "An object is used for at most 512 calls after it has been made; what later calls answer is free.")
    static void allCalls() {
        PotatoStamps x = new PotatoStamps();
        for (int n = 0; n < 509; n++) {
            Check.due("eaten", 0, x.pass(60));
        }
        Check.due("hour", 509 * 60, x.account(0));
        Check.floats("hunger", 1.5f * 60f * 509f, x.hunger());
        Check.due("the 512th call", 7, x.undo());
        PotatoStamps y = new PotatoStamps();
        for (int n = 0; n < 8; n++) {
            for (int sign = 0; sign < 60; sign++) {
                y.append("p60;".charAt(sign % 4));
            }
            raises("ends too early", OUT_OF_RANGE, () -> y.run());
            Check.due("its end", 60, y.errorPosition());
        }
        Check.due("hour", 0, y.account(0));
    }
}
