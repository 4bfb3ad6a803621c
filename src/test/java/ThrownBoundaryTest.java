import java.util.function.Consumer;

/** What holds for every method that throws: nothing changes, and the exception that is told first is thrown. */
final class ThrownBoundaryTest extends Calls {
    private static final String UNCHANGED =
        "A method that throws an exception leaves the state unchanged unless its documentation says otherwise.";
    private static final String FIRST = "If several exceptions apply, the one that is documented first is thrown.";
    private static final String STAY = "The input, the error position and the reason are neither undone nor saved, and stay.";

    public static void main(String[] args) throws Exception {
        Sentences.runAll(ThrownBoundaryTest.class);
    }

    /** On an office with room and on a full one. */
    private static void leavesBoth(Class<?> due, Consumer<PotatoStamps> call) {
        leavesAll(due, () -> sample(), call);
        leavesAll(due, () -> fullSample(), call);
    }

    @Sentence(promise = 2, says = UNCHANGED)
    static void crayonLeaves() {
        leavesBoth(OUT_OF_RANGE, x -> x.crayon(9));
        leavesBoth(OUT_OF_RANGE, x -> x.crayon(121));
        leavesAll(REFUSED, () -> fullSample(), x -> x.crayon(120));
    }

    @Sentence(promise = 3, says = UNCHANGED)
    static void crayonOfLeaves() {
        leavesBoth(NO_SUCH, x -> x.crayonOf(8));
    }

    @Sentence(promise = 4, says = UNCHANGED)
    static void letterLeaves() {
        leavesBoth(NO_SUCH, x -> x.letter(0, 6, 1, 0));
        leavesBoth(NO_SUCH, x -> x.letter(0, 1, 1, 8));
        leavesBoth(OUT_OF_RANGE, x -> x.letter(0, 1, 41, 0));
        leavesBoth(REFUSED, x -> x.letter(1, 1, 1, 0));
        leavesBoth(REFUSED, x -> x.letter(0, 1, 21, 1));
        leavesAll(REFUSED, () -> fullSample(), x -> x.letter(0, 1, 1, 0));
    }

    @Sentence(promise = 5, says = UNCHANGED)
    static void parcelLeaves() {
        leavesBoth(NO_SUCH, x -> x.parcel(6, 0, 1, 1, 1));
        leavesBoth(OUT_OF_RANGE, x -> x.parcel(0, 1, 1, 1, 10));
        leavesBoth(REFUSED, x -> x.parcel(1, 1, 1, 1, 1));
        leavesAll(REFUSED, () -> fullSample(), x -> x.parcel(0, 1, 1, 1, 1));
        leavesAll(REFUSED, () -> shortOfString(), x -> x.parcel(0, 1, 9, 9, 9));
    }

    private static PotatoStamps shortOfString() {
        PotatoStamps x = new PotatoStamps();
        x.parcel(0, 1, 1, 1, 1);
        x.save();
        return x;
    }

    @Sentence(promise = 6, says = UNCHANGED)
    static void itemOfLeaves() {
        leavesBoth(NO_SUCH, x -> x.itemOf(20, 0));
        leavesBoth(OUT_OF_RANGE, x -> x.itemOf(0, 7));
    }

    @Sentence(promise = 7, says = UNCHANGED)
    static void readsLeaves() {
        leavesBoth(NO_SUCH, x -> x.reads(20));
        leavesBoth(NONE, x -> x.reads(2));
    }

    @Sentence(promise = 8, says = UNCHANGED)
    static void stringForLeaves() {
        leavesBoth(OUT_OF_RANGE, x -> x.stringFor(0, 1, 1));
    }

    @Sentence(promise = 9, says = UNCHANGED)
    static void stringLeaves() {
        leavesBoth(OUT_OF_RANGE, x -> x.string(0));
        leavesBoth(OUT_OF_RANGE, x -> x.string(21));
    }

    @Sentence(promise = 10, says = UNCHANGED)
    static void lettersOfLeaves() {
        leavesBoth(NO_SUCH, x -> x.lettersOf(8, 1));
        leavesBoth(OUT_OF_RANGE, x -> x.lettersOf(0, 0));
    }

    @Sentence(promise = 11, says = UNCHANGED)
    static void lettersAgainLeaves() {
        leavesBoth(NO_SUCH, x -> x.lettersAgain(8, 1));
        leavesBoth(OUT_OF_RANGE, x -> x.lettersAgain(0, 0));
    }

    @Sentence(promise = 12, says = UNCHANGED)
    static void rankedLeaves() {
        leavesBoth(NONE, x -> x.ranked(20));
    }

    @Sentence(promise = 13, says = UNCHANGED)
    static void potatoLeaves() {
        leavesAll(REFUSED, () -> fullSample(), x -> x.potato());
    }

    @Sentence(promise = 14, says = UNCHANGED)
    static void firmnessLeaves() {
        leavesBoth(NO_SUCH, x -> x.firmness(5));
    }

    @Sentence(promise = 15, says = UNCHANGED)
    static void printLeaves() {
        leavesBoth(NO_SUCH, x -> x.print(5));
    }

    @Sentence(promise = 16, says = UNCHANGED)
    static void stampsOfLeaves() {
        leavesBoth(NO_SUCH, x -> x.stampsOf(5));
    }

    @Sentence(promise = 17, says = UNCHANGED)
    static void bestLeaves() {
        leavesAll(NONE, () -> shortOfString(), x -> x.best());
    }

    @Sentence(promise = 18, says = UNCHANGED)
    static void inkLeaves() {
        leavesBoth(OUT_OF_RANGE, x -> x.ink(0));
        leavesBoth(OUT_OF_RANGE, x -> x.ink(51));
    }

    @Sentence(promise = 20, says = UNCHANGED)
    static void stampLeaves() {
        leavesBoth(NO_SUCH, x -> x.stamp(20, 0));
        leavesBoth(NO_SUCH, x -> x.stamp(6, 5));
        leavesBoth(REFUSED, x -> x.stamp(5, 0));
        leavesAll(REFUSED, () -> softSample(), x -> x.stamp(19, 0));
    }

    /** A potato that is too soft. */
    private static PotatoStamps softSample() {
        PotatoStamps x = new PotatoStamps();
        x.potato();
        letters(x, 20);
        while (x.stampsOf(0) > 0) {
            x.stamp(x.account(6), 0);
        }
        x.save();
        x.restore();
        return x;
    }

    @Sentence(promise = 21, says = UNCHANGED)
    static void shelveLeaves() {
        leavesBoth(NO_SUCH, x -> x.shelve(20, 0));
        leavesBoth(NO_SUCH, x -> x.shelve(5, 2));
        leavesBoth(REFUSED, x -> x.shelve(6, 1));
        leavesBoth(REFUSED, x -> x.shelve(5, 1));
        leavesAll(REFUSED, () -> fullRow(), x -> x.shelve(3, 0));
    }

    private static PotatoStamps fullRow() {
        PotatoStamps x = new PotatoStamps();
        x.potato();
        letters(x, 4);
        for (int item = 0; item < 3; item++) {
            shelved(x, item, 0);
        }
        x.stamp(3, 0);
        x.save();
        x.restore();
        return x;
    }

    @Sentence(promise = 22, says = UNCHANGED)
    static void takeLeaves() {
        leavesBoth(NO_SUCH, x -> x.take(6));
        leavesBoth(REFUSED, x -> x.take(1));
    }

    @Sentence(promise = 23, says = UNCHANGED)
    static void inHoleLeaves() {
        leavesBoth(NO_SUCH, x -> x.inHole(4, 1, 2));
        leavesBoth(NONE, x -> x.inHole(4, 0, 2));
    }

    @Sentence(promise = 24, says = UNCHANGED)
    static void readLeaves() {
        leavesBoth(NO_SUCH, x -> x.read(6));
    }

    @Sentence(promise = 25, says = UNCHANGED)
    static void snacksLeaves() {
        leavesBoth(OUT_OF_RANGE, x -> x.snacks(0));
        leavesBoth(OUT_OF_RANGE, x -> x.snacks(21));
    }

    @Sentence(promise = 26, says = UNCHANGED)
    static void feedLeaves() {
        leavesBoth(OUT_OF_RANGE, x -> x.feed(0));
        leavesBoth(OUT_OF_RANGE, x -> x.feed(10));
        leavesBoth(REFUSED, x -> x.feed(8));
    }

    @Sentence(promise = 28, says = UNCHANGED)
    static void preyLeaves() {
        leavesAll(NONE, () -> softSample(), x -> x.prey());
    }

    @Sentence(promise = 29, says = UNCHANGED)
    static void eatsInLeaves() {
        leavesAll(NONE, () -> softSample(), x -> x.eatsIn());
    }

    @Sentence(promise = 30, says = UNCHANGED)
    static void passLeaves() {
        leavesBoth(OUT_OF_RANGE, x -> x.pass(0));
        leavesBoth(OUT_OF_RANGE, x -> x.pass(61));
    }

    @Sentence(promise = 31, says = UNCHANGED)
    static void signLeaves() {
        leavesBoth(NO_SUCH, x -> x.sign(20));
    }

    @Sentence(promise = 32, says = UNCHANGED)
    static void appendLeaves() {
        leavesAll(NOT_NOW, () -> longText(), x -> x.append('1'));
    }

    private static PotatoStamps longText() {
        PotatoStamps x = new PotatoStamps();
        x.save();
        type(x, filler(57) + "p01");
        return x;
    }

    @Sentence(promise = 33, says = UNCHANGED)
    static void runLeaves() {
        leavesAll(OUT_OF_RANGE, () -> behindError(9), x -> runText(x, "p1;t4;h5;x"));
        leavesAll(OUT_OF_RANGE, () -> behindError(14), x -> runText(x, "s6@1;w0>1*1/0;"));
        leavesAll(OUT_OF_RANGE, () -> behindError(0), x -> runText(x, ""));
        leavesAll(OUT_OF_RANGE, () -> behindRefusal(), x -> runText(x, "p1;t4;h5;f0"));
        leavesAll(REFUSED, () -> behindRefusal(), x -> runText(x, "p1;t4;h5;f9"));
    }

    /** The input is empty, and the error position is this, so that another text can make the same. */
    private static PotatoStamps behindError(int position) {
        PotatoStamps x = emptied(sample());
        runRaises(x, filler(position) + "x");
        Check.due("error position", position, x.errorPosition());
        return x;
    }

    /** The input is empty, and the latest text had no error. */
    private static PotatoStamps behindRefusal() {
        PotatoStamps x = emptied(sample());
        runRefuses("ahead", x, "t3", 10, 3);
        return x;
    }

    @Sentence(promise = 36, says = UNCHANGED)
    static void accountLeaves() {
        leavesBoth(OUT_OF_RANGE, x -> x.account(15));
    }

    @Sentence(promise = 38, says = UNCHANGED)
    static void meanLeaves() {
        leavesAll(ArithmeticException.class, () -> shortOfString(), x -> x.meanBits());
    }

    @Sentence(promise = 35, says = UNCHANGED)
    static void refusalLeaves() {
        leavesAll(NONE, () -> shortOfString(), x -> x.refusal(true));
    }

    @Sentence(promise = 39, says = UNCHANGED)
    static void undoLeaves() {
        leavesAll(NOT_NOW, () -> softSample(), x -> x.undo());
    }

    @Sentence(promise = 41, says = UNCHANGED)
    static void restoreLeaves() {
        leavesAll(NOT_NOW, () -> unsaved(), x -> x.restore());
    }

    private static PotatoStamps unsaved() {
        PotatoStamps x = new PotatoStamps();
        x.snacks(3);
        letters(x, 1);
        return x;
    }

    @Sentence(promise = 2, says = FIRST)
    static void crayonFirst() {
        PotatoStamps x = fullSample();
        raisesFor(OUT_OF_RANGE, n -> x.crayon(n), 9, 121);
        Check.due("not refused", "10 3", refusalOf(x));
    }

    @Sentence(promise = 4, says = FIRST)
    static void letterFirst() {
        PotatoStamps x = fullSample();
        raises("child ahead of words", NO_SUCH, () -> x.letter(6, 1, 0, 0));
        raises("child ahead of words", NO_SUCH, () -> x.letter(0, -1, 41, 0));
        raises("crayon ahead of words", NO_SUCH, () -> x.letter(0, 1, 0, 8));
        raises("crayon ahead of the refusal", NO_SUCH, () -> x.letter(1, 1, 1, 8));
        raises("child ahead of the refusal", NO_SUCH, () -> x.letter(6, 6, 1, 1));
        raises("words ahead of 20 items", OUT_OF_RANGE, () -> x.letter(0, 1, 41, 0));
        PotatoStamps y = sample();
        raises("words ahead of the same child", OUT_OF_RANGE, () -> y.letter(1, 1, 0, 0));
        raises("words ahead of the short crayon", OUT_OF_RANGE, () -> y.letter(0, 1, 41, 1));
        Check.due("not refused", "10 3", refusalOf(x));
        Check.due("not refused", "10 3", refusalOf(y));
    }

    @Sentence(promise = 5, says = FIRST)
    static void parcelFirst() {
        PotatoStamps x = fullSample();
        raises("child ahead of sides", NO_SUCH, () -> x.parcel(6, 1, 0, 1, 1));
        raises("child ahead of sides", NO_SUCH, () -> x.parcel(0, -1, 1, 1, 10));
        raises("child ahead of the refusal", NO_SUCH, () -> x.parcel(6, 6, 1, 1, 1));
        raises("sides ahead of 20 items", OUT_OF_RANGE, () -> x.parcel(0, 1, 1, 10, 1));
        PotatoStamps y = shortOfString();
        raises("sides ahead of the same child", OUT_OF_RANGE, () -> y.parcel(1, 1, 0, 1, 1));
        raises("sides ahead of the string", OUT_OF_RANGE, () -> y.parcel(0, 1, 9, 9, 10));
        Check.due("not refused", "10 3", refusalOf(x));
        Check.due("not refused", "none", refusalOf(y));
    }

    @Sentence(promise = 6, says = FIRST)
    static void itemOfFirst() {
        PotatoStamps x = sample();
        raises("item ahead of what", NO_SUCH, () -> x.itemOf(8, 7));
        raises("item ahead of what", NO_SUCH, () -> x.itemOf(-1, -1));
    }

    @Sentence(promise = 10, says = FIRST)
    static void lettersOfFirst() {
        PotatoStamps x = sample();
        raises("crayon ahead of words", NO_SUCH, () -> x.lettersOf(2, 0));
        raises("crayon ahead of words", NO_SUCH, () -> x.lettersOf(-1, 41));
    }

    @Sentence(promise = 11, says = FIRST)
    static void lettersAgainFirst() {
        PotatoStamps x = sample();
        raises("crayon ahead of words", NO_SUCH, () -> x.lettersAgain(2, 0));
        raises("crayon ahead of words", NO_SUCH, () -> x.lettersAgain(-1, 41));
    }

    @Sentence(promise = 20, says = FIRST)
    static void stampFirst() {
        PotatoStamps x = sample();
        raises("potato ahead of the refusal", NO_SUCH, () -> x.stamp(5, 2));
        raises("potato ahead of the refusal", NO_SUCH, () -> x.stamp(0, -1));
        PotatoStamps y = softSample();
        raises("item ahead of the refusal", NO_SUCH, () -> y.stamp(20, 0));
        Check.due("not refused", "10 3", refusalOf(x));
        Check.due("not refused", "none", refusalOf(y));
    }

    @Sentence(promise = 21, says = FIRST)
    static void shelveFirst() {
        PotatoStamps x = sample();
        raises("row ahead of the refusal", NO_SUCH, () -> x.shelve(6, 2));
        raises("row ahead of the refusal", NO_SUCH, () -> x.shelve(0, -1));
        Check.due("not refused", "10 3", refusalOf(x));
    }

    @Sentence(promise = 23, says = FIRST)
    static void inHoleFirst() {
        PotatoStamps x = new PotatoStamps();
        raises("no pigeonhole ahead of an empty one", NO_SUCH, () -> x.inHole(0, 0, 3));
        raises("no row ahead of an empty pigeonhole", NO_SUCH, () -> x.inHole(0, 2, 0));
        raises("no child ahead of an empty pigeonhole", NO_SUCH, () -> x.inHole(6, 0, 0));
    }

    @Sentence(promise = 26, says = FIRST)
    static void feedFirst() {
        PotatoStamps x = new PotatoStamps();
        raises("too many ahead of too few snacks", OUT_OF_RANGE, () -> x.feed(10));
        Check.due("not refused", "none", refusalOf(x));
    }

    @Sentence(promise = 33, says = FIRST)
    static void runFirst() {
        PotatoStamps x = emptied(fullSample());
        runRaises(x, "t3;x");
        Check.due("an error ahead of the refusal", 3, x.errorPosition());
        runRaises(x, "h99;x");
        Check.due("an error ahead of a wrong number", 4, x.errorPosition());
        for (String text : new String[] {"w6>6*1/0", "w1>1*0/0", "w1>1*1/8", "s5@5", "h99"}) {
            runRaises(x, text);
            Check.due("wrong numbers ahead of the refusal " + text, -1, x.errorPosition());
        }
        Check.due("not refused", "10 3", refusalOf(x));
    }

    @Sentence(promise = 32, says = STAY)
    static void inputStays() {
        PotatoStamps x = new PotatoStamps();
        type(x, "p");
        x.pass(1);
        x.save();
        type(x, "3");
        x.undo();
        Check.due("not undone", 2, x.account(13));
        x.pass(1);
        x.restore();
        Check.due("not saved", 2, x.account(13));
        Check.due("not saved", 1, x.run());
        Check.due("the text as it was typed", 4, x.account(0));
        x.undo();
        Check.due("not undone", 0, x.account(13));
        runText(x, "p1");
        x.restore();
        Check.due("not saved", 0, x.account(13));
    }

    @Sentence(promise = 34, says = STAY)
    static void errorPositionStays() {
        PotatoStamps x = new PotatoStamps();
        x.pass(1);
        x.save();
        runRaises(x, "p1x");
        x.undo();
        Check.due("not undone", 2, x.errorPosition());
        x.restore();
        Check.due("not saved", 2, x.errorPosition());
        x.save();
        runText(x, "p1");
        x.restore();
        Check.due("not saved", -1, x.errorPosition());
        x.pass(1);
        runRaises(x, "x");
        runText(x, "p1");
        x.undo();
        Check.due("not undone", -1, x.errorPosition());
    }

    @Sentence(promise = 35, says = STAY)
    static void reasonStays() {
        PotatoStamps x = new PotatoStamps();
        x.pass(1);
        x.save();
        refuses("first", x, 10, 5, () -> x.take(5));
        x.undo();
        Check.due("not undone", "10 5", refusalOf(x));
        x.restore();
        Check.due("not saved", "10 5", refusalOf(x));
        x.save();
        refuses("second", x, 11, 0, () -> x.feed(1));
        x.restore();
        Check.due("not saved", "11 0", refusalOf(x));
        x.snacks(1);
        runRefuses("third", x, "f1;f2", 11, 0);
        x.feed(1);
        Check.due("a call that is not refused", "11 0", refusalOf(x));
        x.undo();
        x.undo();
        Check.due("not undone", "11 0", refusalOf(x));
    }
}
