import java.util.ArrayDeque;
import java.util.ArrayList;
import java.util.Comparator;
import java.util.Deque;
import java.util.List;
import java.util.NoSuchElementException;
import java.util.function.IntSupplier;
import java.util.regex.Matcher;
import java.util.regex.Pattern;

/** The same promises kept in the plainest way, with all of the Java library: what runs of calls are held against. */
public final class Model {
    private static final String ORDER = "(w\\d>\\d\\*\\d{1,2}/\\d|s\\d{1,2}@\\d|h\\d{1,2}|t\\d|f\\d|p\\d{1,2})";
    private static final Pattern TEXT = Pattern.compile(ORDER + "(;" + ORDER + ")*");

    private record Item(boolean isParcel, int from, int to, int size, float reading, int state, int hole, int potato) {
        Item with(int newState, int newHole, int newPotato) {
            return new Item(isParcel, from, to, size, reading, newState, newHole, newPotato);
        }
    }

    private static final class State {
        List<Float> crayons = new ArrayList<>();
        List<Float> potatoes = new ArrayList<>();
        List<Item> items = new ArrayList<>();
        List<Integer> readers = new ArrayList<>();
        float string = 3.0f;
        float ink = 2.0f;
        float hunger = 0.0f;
        int snacks = 0;
        int fed = 0;
        int hour = 0;

        State copy() {
            State s = new State();
            s.crayons = new ArrayList<>(crayons);
            s.potatoes = new ArrayList<>(potatoes);
            s.items = new ArrayList<>(items);
            s.readers = new ArrayList<>(readers);
            s.string = string;
            s.ink = ink;
            s.hunger = hunger;
            s.snacks = snacks;
            s.fed = fed;
            s.hour = hour;
            return s;
        }
    }

    private State s = new State();
    private State saved = null;
    private final Deque<State> past = new ArrayDeque<>();
    private boolean isRunning = false;
    private String text = "";
    private int errorAt = -1;
    private int reason = 0;
    private int detail = 0;

    private int change(IntSupplier action) {
        State before = s;
        s = s.copy();
        try {
            int answer = action.getAsInt();
            if (!isRunning) {
                past.addLast(before);
                if (past.size() > 8) {
                    past.removeFirst();
                }
            }
            return answer;
        } catch (RuntimeException e) {
            s = before;
            throw e;
        }
    }

    private void refuseIf(boolean applies, int why, int what) {
        if (applies) {
            reason = why;
            detail = what;
            throw new UnsupportedOperationException();
        }
    }

    private static void index(boolean holds) {
        if (!holds) {
            throw new IndexOutOfBoundsException();
        }
    }

    private static void range(int n, int low, int high) {
        if (n < low || n > high) {
            throw new IllegalArgumentException();
        }
    }

    private static void found(boolean holds) {
        if (!holds) {
            throw new NoSuchElementException();
        }
    }

    private static boolean child(int n) {
        return n >= 0 && n < 6;
    }

    private static <T> T at(List<T> list, int n) {
        index(n >= 0 && n < list.size());
        return list.get(n);
    }

    private static int bits(float f) {
        return Float.floatToIntBits(f);
    }

    private static float needs(int a, int b, int c) {
        return 0.1f * (float) (a + a + b + b + c + c + c + c);
    }

    private static float printed(float firm, float ink) {
        return firm * (ink / (ink + 0.5f));
    }

    public int crayon(int tenths) {
        return change(() -> {
            range(tenths, 10, 120);
            refuseIf(s.crayons.size() == 8, 1, 8);
            s.crayons.add(0.1f * (float) tenths);
            return s.crayons.size() - 1;
        });
    }

    public float crayonOf(int crayon) {
        return at(s.crayons, crayon);
    }

    public int letter(int from, int to, int words, int crayon) {
        return change(() -> {
            index(child(from) && child(to));
            float length = at(s.crayons, crayon);
            range(words, 1, 40);
            refuseIf(s.items.size() == 20, 1, 20);
            refuseIf(from == to, 2, from);
            refuseIf(!(length >= 0.05f * (float) words), 3, crayon);
            float left = length - 0.05f * (float) words;
            s.crayons.set(crayon, left);
            float reading = (left + 1.0f) / ((left + 1.0f) + (0.1f * (float) words));
            s.items.add(new Item(false, from, to, words, reading, 0, -1, -1));
            return s.items.size() - 1;
        });
    }

    public int parcel(int from, int to, int a, int b, int c) {
        return change(() -> {
            index(child(from) && child(to));
            range(a, 1, 9);
            range(b, 1, 9);
            range(c, 1, 9);
            refuseIf(s.items.size() == 20, 1, 20);
            refuseIf(from == to, 2, from);
            refuseIf(!(s.string >= needs(a, b, c)), 4, (int) Math.floor(s.string));
            s.string = s.string - needs(a, b, c);
            s.items.add(new Item(true, from, to, a + b + c, 0f, 0, -1, -1));
            return s.items.size() - 1;
        });
    }

    public int itemOf(int item, int what) {
        Item i = at(s.items, item);
        range(what, 0, 6);
        return new int[] {i.isParcel ? 1 : 0, i.from, i.to, i.size, i.state, i.hole, i.potato}[what];
    }

    public int reads(int item) {
        Item i = at(s.items, item);
        found(!i.isParcel);
        return bits(i.reading);
    }

    public int stringFor(int a, int b, int c) {
        range(a, 1, 9);
        range(b, 1, 9);
        range(c, 1, 9);
        return bits(needs(a, b, c));
    }

    public int string(int metres) {
        return change(() -> {
            range(metres, 1, 20);
            s.string = Math.min(99.0f, s.string + (float) metres);
            return bits(s.string);
        });
    }

    public int lettersOf(int crayon, int words) {
        float length = at(s.crayons, crayon);
        range(words, 1, 40);
        int many = 0;
        for (float need = 0.05f * (float) words; length >= need; length -= need) {
            many++;
        }
        return many;
    }

    public int lettersAgain(int crayon, int words) {
        return lettersOf(crayon, words);
    }

    public int ranked(int place) {
        List<Integer> order = letters();
        order.sort(Comparator.comparing((Integer i) -> -s.items.get(i).reading).thenComparing(i -> i));
        found(place >= 0 && place < order.size());
        return order.get(place);
    }

    private List<Integer> letters() {
        List<Integer> all = new ArrayList<>();
        for (int i = 0; i < s.items.size(); i++) {
            if (!s.items.get(i).isParcel) {
                all.add(i);
            }
        }
        return all;
    }

    public int potato() {
        return change(() -> {
            refuseIf(s.potatoes.size() == 5, 1, 5);
            s.potatoes.add(1.0f);
            return s.potatoes.size() - 1;
        });
    }

    public float firmness(int potato) {
        return at(s.potatoes, potato);
    }

    public int print(int potato) {
        return bits(printed(at(s.potatoes, potato), s.ink));
    }

    public int stampsOf(int potato) {
        float firm = at(s.potatoes, potato);
        int many = 0;
        for (float ink = s.ink; printed(firm, ink) >= 0.3f; ink = 0.95f * ink) {
            firm = 0.9f * firm;
            many++;
        }
        return many;
    }

    public int best() {
        found(!s.potatoes.isEmpty());
        float most = -1f;
        for (float firm : s.potatoes) {
            most = Math.max(most, printed(firm, s.ink));
        }
        for (int p = 0; p < s.potatoes.size(); p++) {
            if (printed(s.potatoes.get(p), s.ink) == most) {
                return p;
            }
        }
        return -1;
    }

    public int ink(int tenths) {
        return change(() -> {
            range(tenths, 1, 50);
            s.ink = Math.min(9.0f, s.ink + (0.1f * (float) tenths));
            return bits(s.ink);
        });
    }

    public float inkNow() {
        return s.ink;
    }

    public int stamp(int item, int potato) {
        return change(() -> {
            Item i = at(s.items, item);
            float firm = at(s.potatoes, potato);
            refuseIf(i.state != 0, 5, i.state);
            float print = printed(firm, s.ink);
            refuseIf(!(print >= 0.3f), 6, potato);
            s.potatoes.set(potato, 0.9f * firm);
            s.ink = 0.95f * s.ink;
            s.items.set(item, i.with(1, -1, potato));
            return bits(print);
        });
    }

    private int holder(int child, int row, int hole) {
        for (int n = 0; n < s.items.size(); n++) {
            Item i = s.items.get(n);
            if (i.state == 2 && i.to == child && i.isParcel == (row == 1) && i.hole == hole) {
                return n;
            }
        }
        return -1;
    }

    public int shelve(int item, int row) {
        return change(() -> {
            Item i = at(s.items, item);
            index(row == 0 || row == 1);
            refuseIf(i.state != 1, 7, i.state);
            int free = 0;
            while (free < 3 - row && holder(i.to, row, free) >= 0) {
                free++;
            }
            refuseIf(free == 3 - row, 8, row);
            refuseIf(i.isParcel != (row == 1), 9, row);
            s.items.set(item, i.with(2, free, i.potato));
            return free;
        });
    }

    public int take(int child) {
        return change(() -> {
            index(child(child));
            int many = 0;
            for (int n = 0; n < s.items.size(); n++) {
                Item i = s.items.get(n);
                if (i.state == 2 && i.to == child) {
                    s.items.set(n, i.with(3, -1, i.potato));
                    many++;
                    if (!i.isParcel) {
                        s.readers.add(child);
                    }
                }
            }
            refuseIf(many == 0, 10, child);
            return many;
        });
    }

    public int inHole(int child, int row, int hole) {
        index(child(child) && (row == 0 || row == 1) && hole >= 0 && hole < 3 - row);
        int item = holder(child, row, hole);
        found(item >= 0);
        return item;
    }

    public int read(int child) {
        index(child(child));
        return (int) s.readers.stream().filter(r -> r == child).count();
    }

    public int snacks(int many) {
        return change(() -> {
            range(many, 1, 20);
            s.snacks = Math.min(50, s.snacks + many);
            return s.snacks;
        });
    }

    public int feed(int many) {
        return change(() -> {
            range(many, 1, 9);
            refuseIf(s.snacks < many, 11, s.snacks);
            s.snacks -= many;
            s.fed += many;
            for (int n = 0; n < many; n++) {
                s.hunger = Math.max(0.0f, s.hunger - 2.0f);
            }
            return bits(s.hunger);
        });
    }

    public float hunger() {
        return s.hunger;
    }

    private int worst() {
        return letters().stream().filter(i -> s.items.get(i).state == 2)
            .min(Comparator.comparing((Integer i) -> s.items.get(i).reading).thenComparing(i -> i)).orElse(-1);
    }

    public int prey() {
        found(worst() >= 0);
        return worst();
    }

    public int eatsIn() {
        found(worst() >= 0);
        State kept = s;
        s = s.copy();
        int hours = 0;
        int eaten = 0;
        while (eaten == 0) {
            eaten = hours(1);
            hours++;
        }
        s = kept;
        return hours;
    }

    private int hours(int many) {
        int eaten = 0;
        for (int n = 0; n < many; n++) {
            s.hunger = s.hunger + 1.5f;
            int prey = worst();
            if (s.hunger > 8.0f && prey >= 0) {
                s.items.set(prey, s.items.get(prey).with(4, -1, s.items.get(prey).potato));
                s.hunger = s.hunger - 5.0f;
                eaten++;
            }
            s.hour++;
        }
        return eaten;
    }

    public int pass(int hours) {
        return change(() -> {
            range(hours, 1, 60);
            return hours(hours);
        });
    }

    public char sign(int item) {
        Item i = at(s.items, item);
        char sign = "mshte".charAt(i.state);
        return i.isParcel ? Character.toUpperCase(sign) : sign;
    }

    public int append(char c) {
        if (text.length() == 60) {
            throw new IllegalStateException();
        }
        text += c;
        return text.length();
    }

    private static int errorIn(String text) {
        for (int end = 1; end <= text.length(); end++) {
            Matcher m = TEXT.matcher(text.substring(0, end));
            if (!m.matches() && !m.hitEnd()) {
                return end - 1;
            }
        }
        return TEXT.matcher(text).matches() ? -1 : text.length();
    }

    public int run() {
        String orders = text;
        text = "";
        errorAt = errorIn(orders);
        range(errorAt, -1, -1);
        return change(() -> {
            isRunning = true;
            try {
                for (String order : orders.split(";")) {
                    carryOut(order);
                }
            } catch (IndexOutOfBoundsException e) {
                throw new IllegalArgumentException();
            } finally {
                isRunning = false;
            }
            return orders.split(";").length;
        });
    }

    private void carryOut(String order) {
        String[] parts = order.substring(1).split("[^0-9]");
        int[] n = new int[4];
        for (int p = 0; p < parts.length; p++) {
            n[p] = Integer.parseInt(parts[p]);
        }
        switch (order.charAt(0)) {
            case 'w' -> letter(n[0], n[1], n[2], n[3]);
            case 's' -> stamp(n[0], n[1]);
            case 'h' -> shelve(n[0], at(s.items, n[0]).isParcel ? 1 : 0);
            case 't' -> take(n[0]);
            case 'f' -> feed(n[0]);
            default -> pass(n[0]);
        }
    }

    public int errorPosition() {
        return errorAt;
    }

    public int refusal(boolean isDetail) {
        found(reason != 0);
        return isDetail ? detail : reason;
    }

    public int account(int what) {
        range(what, 0, 14);
        if (what >= 5 && what <= 9) {
            return (int) s.items.stream().filter(i -> i.state == what - 5).count();
        }
        return switch (what) {
            case 0 -> s.hour;
            case 1 -> s.crayons.size();
            case 2 -> s.items.size();
            case 3 -> letters().size();
            case 4 -> s.potatoes.size();
            case 10 -> s.snacks;
            case 11 -> s.fed;
            case 12 -> s.items.stream().filter(i -> !i.isParcel).mapToInt(Item::size).sum();
            case 13 -> text.length();
            default -> past.size();
        };
    }

    public boolean isWell() {
        return true;
    }

    public long meanBits() {
        List<Integer> letters = letters();
        if (letters.isEmpty()) {
            throw new ArithmeticException();
        }
        double sum = 0.0;
        for (int letter : letters) {
            sum = sum + (double) s.items.get(letter).reading;
        }
        return Double.doubleToLongBits(sum / (double) letters.size());
    }

    public int undo() {
        if (past.isEmpty()) {
            throw new IllegalStateException();
        }
        s = past.removeLast();
        return past.size();
    }

    public int save() {
        saved = s.copy();
        return s.items.size();
    }

    public int restore() {
        if (saved == null) {
            throw new IllegalStateException();
        }
        s = saved.copy();
        past.clear();
        return s.items.size();
    }
}
