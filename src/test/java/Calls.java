import java.util.NoSuchElementException;
import java.util.function.Consumer;
import java.util.function.IntConsumer;
import java.util.function.Supplier;

/** What the tests share: calls that are to throw, texts, offices with much in them, and pictures of an office. */
class Calls {
    static final Class<?> NO_SUCH = IndexOutOfBoundsException.class;
    static final Class<?> OUT_OF_RANGE = IllegalArgumentException.class;
    static final Class<?> REFUSED = UnsupportedOperationException.class;
    static final Class<?> NONE = NoSuchElementException.class;
    static final Class<?> NOT_NOW = IllegalStateException.class;

    Calls() {
    }

    /** Every answer about what changes can change. */
    static String picture(PotatoStamps x) {
        StringBuilder out = new StringBuilder();
        for (int what = 0; what <= 12; what++) {
            out.append(x.account(what)).append(' ');
        }
        for (int crayon = 0; crayon < x.account(1); crayon++) {
            out.append(x.crayonOf(crayon)).append(' ');
        }
        for (int potato = 0; potato < x.account(4); potato++) {
            out.append(x.firmness(potato)).append(' ').append(x.print(potato)).append(' ');
        }
        for (int item = 0; item < x.account(2); item++) {
            for (int what = 0; what <= 6; what++) {
                out.append(x.itemOf(item, what)).append(' ');
            }
            out.append(x.itemOf(item, 0) == 0 ? x.reads(item) : 0).append(' ');
        }
        for (int child = 0; child < 6; child++) {
            out.append(x.read(child)).append(' ');
            for (int hole = 0; hole < 5; hole++) {
                out.append(holeOf(x, child, hole)).append(' ');
            }
        }
        out.append(x.inkNow()).append(' ').append(x.hunger()).append(' ').append(metresOf(x));
        return out.toString();
    }

    static int holeOf(PotatoStamps x, int child, int hole) {
        try {
            return x.inHole(child, hole / 3, hole % 3);
        } catch (NoSuchElementException e) {
            return -1;
        }
    }

    // The string is told by the answer of a change alone, which is taken back at once.
    static int metresOf(PotatoStamps x) {
        int bits = x.string(1);
        x.undo();
        return bits;
    }

    static void letters(PotatoStamps x, int many) {
        int crayon = x.crayon(120);
        for (int n = 0; n < many; n++) {
            x.letter(0, 1, n % 2 == 0 ? 5 : 9, crayon);
        }
    }

    static void type(PotatoStamps x, String text) {
        for (int n = 0; n < text.length(); n++) {
            x.append(text.charAt(n));
        }
    }

    /** So many characters of orders, each with a semicolon behind it; there is one from six characters on. */
    static String filler(int length) {
        StringBuilder text = new StringBuilder();
        while ((length - text.length()) % 3 != 0) {
            text.append("p01;");
        }
        while (text.length() < length) {
            text.append("p1;");
        }
        return text.toString();
    }

    /** Clears the input by a text with an error. */
    static PotatoStamps emptied(PotatoStamps x) {
        runRaises(x, "x");
        return x;
    }

    static void runText(PotatoStamps x, String text) {
        type(x, text);
        x.run();
    }

    static void dueItem(String what, PotatoStamps x, int item, int[] due) {
        for (int n = 0; n < due.length; n++) {
            Check.due(what + " " + n, due[n], x.itemOf(item, n));
        }
    }

    static void dueSigns(String what, PotatoStamps x, String due) {
        for (int item = 0; item < due.length(); item++) {
            Check.due(what, due.charAt(item), x.sign(item));
        }
    }

    /** A text with an error at an offset, on an office of its own. */
    static void dueError(String text, int due) {
        PotatoStamps x = new PotatoStamps();
        runRaises(x, text);
        Check.due("position of " + text, due, x.errorPosition());
        Check.due("input behind " + text, 0, x.account(13));
    }

    /** A text that run takes for an argument that it cannot have. */
    static void runRaises(PotatoStamps x, String text) {
        type(x, text);
        raises("the text " + text, OUT_OF_RANGE, () -> x.run());
    }

    static void raises(String what, Class<?> want, Runnable call) {
        Check.raises(what, want, call);
    }

    static void raisesFor(Class<?> want, IntConsumer call, int... numbers) {
        for (int number : numbers) {
            Check.raises("with " + number, want, () -> call.accept(number));
        }
    }

    /** The least and the largest number, and what lies on both sides of a range. */
    static int[] outside(int least, int most) {
        return new int[] {Integer.MIN_VALUE, -1 - most, least - 1, most + 1, most + 256, Integer.MAX_VALUE};
    }

    static void refuses(String what, PotatoStamps x, int reason, int detail, Runnable call) {
        Check.raises(what, REFUSED, call);
        Check.due(what + ", its reason", reason, x.refusal(false));
        Check.due(what + ", its detail", detail, x.refusal(true));
    }

    static void runRefuses(String what, PotatoStamps x, String text, int reason, int detail) {
        type(x, text);
        refuses(what, x, reason, detail, () -> x.run());
        Check.due(what + ", no error", -1, x.errorPosition());
    }

    static String refusalOf(PotatoStamps x) {
        try {
            return x.refusal(false) + " " + x.refusal(true);
        } catch (NoSuchElementException e) {
            return "none";
        }
    }

    /** Stamps an item and puts it into the row for its kind. */
    static void shelved(PotatoStamps x, int item, int potato) {
        x.stamp(item, potato);
        x.shelve(item, x.itemOf(item, 0));
    }

    /** Letters of one word, until there are so many items. */
    static void letterUntil(PotatoStamps x, int items, int crayon) {
        while (x.account(2) < items) {
            x.letter(0, 1, 1, crayon);
        }
    }

    /** The hours that make the dragon hungry, from its beginning on, but not hungry enough. */
    static final int QUIET_HOURS = 5;

    /**
     * An office with something of everything and seven changes that can be undone: the letters 0 eaten, 1 taken, 3 on a
     * shelf, 5 stamped, 7 made, the parcels 2 taken, 4 on a shelf, 6 made.
     */
    static PotatoStamps sample() {
        PotatoStamps x = new PotatoStamps();
        furnish(x);
        finish(x);
        return x;
    }

    /** The same with 8 crayons, 5 potatoes and 20 items. */
    static PotatoStamps fullSample() {
        PotatoStamps x = new PotatoStamps();
        furnish(x);
        while (x.account(1) < 8) {
            x.crayon(20);
        }
        while (x.account(4) < 5) {
            x.potato();
        }
        letterUntil(x, 20, 7);
        finish(x);
        return x;
    }

    private static void furnish(PotatoStamps x) {
        x.crayon(120);
        x.crayon(12);
        x.potato();
        x.potato();
        x.string(9);
        x.letter(0, 1, 30, 0);
        x.letter(2, 1, 3, 0);
        x.parcel(2, 1, 1, 1, 1);
        x.letter(3, 4, 9, 0);
        x.parcel(4, 5, 2, 1, 1);
        x.letter(5, 4, 1, 0);
        x.parcel(4, 5, 1, 2, 1);
        x.letter(5, 0, 20, 1);
        shelved(x, 0, 0);
        shelved(x, 1, 0);
        shelved(x, 2, 1);
        x.pass(QUIET_HOURS + 1);
        x.take(1);
        shelved(x, 3, 1);
        shelved(x, 4, 0);
        x.snacks(9);
        x.feed(2);
    }

    private static void finish(PotatoStamps x) {
        runRaises(x, "p1x");
        raises("nothing to take", REFUSED, () -> x.take(3));
        x.save();
        x.restore();
        x.ink(3);
        x.string(2);
        x.stamp(5, 1);
        x.pass(1);
        x.snacks(1);
        x.feed(1);
        x.pass(1);
        type(x, "p7");
    }

    /**
     * All that can be found out about an office but the reason: how it is now, behind each undo, behind restore and
     * behind run. A new one is made for each look, so that none is used too often.
     */
    static String whole(Supplier<PotatoStamps> maker) {
        PotatoStamps first = maker.get();
        StringBuilder out = new StringBuilder();
        out.append(first.errorPosition()).append(' ').append(first.account(13)).append('\n');
        int changes = first.account(14);
        for (int undone = 0; undone <= changes; undone++) {
            PotatoStamps x = maker.get();
            for (int n = 0; n < undone; n++) {
                x.undo();
            }
            out.append(x.account(14)).append(": ").append(picture(x)).append('\n');
        }
        PotatoStamps last = maker.get();
        out.append("run: ").append(outcome(() -> last.run())).append(' ').append(last.errorPosition()).append(' ');
        out.append(last.account(0)).append("; restore: ").append(outcome(() -> last.restore())).append(' ');
        out.append(picture(last));
        return out.toString();
    }

    static String outcome(Supplier<Integer> call) {
        try {
            return String.valueOf(call.get());
        } catch (RuntimeException e) {
            return e.getClass().getName();
        }
    }

    /** A call that throws changes nothing that can be found out, but for the reason if it is refused. */
    static void leavesAll(Class<?> due, Supplier<PotatoStamps> maker, Consumer<PotatoStamps> call) {
        Supplier<PotatoStamps> withCall = () -> {
            PotatoStamps x = maker.get();
            String before = refusalOf(x);
            raises("the call", due, () -> call.accept(x));
            if (due != REFUSED) {
                Check.due("the reason", before, refusalOf(x));
            }
            return x;
        };
        String[] want = whole(maker).split("\n");
        String[] got = whole(withCall).split("\n");
        for (int line = 0; line < Math.min(want.length, got.length); line++) {
            Check.due("the office", want[line], got[line]);
        }
        Check.due("the changes that can be undone", want.length, got.length);
    }
}
