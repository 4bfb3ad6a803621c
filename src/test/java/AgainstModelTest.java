import java.lang.reflect.InvocationTargetException;
import java.lang.reflect.Method;
import java.lang.reflect.Modifier;
import java.util.ArrayList;
import java.util.Comparator;
import java.util.List;
import java.util.Random;

/** Long mixed runs of calls, by fixed seeds, answered by the class and by the model. */
final class AgainstModelTest {
    private static final int RUNS = 4000;
    private static final int CALLS = 512;

    // Names told twice or more are called more often, so that runs get somewhere.
    private static final String[] OFTEN = {"crayon", "letter", "letter", "parcel", "string", "potato", "stamp", "stamp",
        "stamp", "shelve", "shelve", "shelve", "snacks", "pass", "run", "run", "run", "ink"};

    private final Random random;
    private final PotatoStamps real = new PotatoStamps();
    private final Model model = new Model();
    private final List<String> story = new ArrayList<>();
    private final boolean isTame;
    private final boolean isDry;

    private AgainstModelTest(int seed) {
        random = new Random(seed);
        isTame = seed % 4 != 0;
        isDry = seed % 3 == 0;
    }

    public static void main(String[] args) throws Exception {
        List<Method> methods = new ArrayList<>();
        for (Method method : PotatoStamps.class.getDeclaredMethods()) {
            if (Modifier.isPublic(method.getModifiers())) {
                methods.add(method);
            }
        }
        methods.sort(Comparator.comparing(Method::getName));
        Check.due("methods of the face", 40, methods.size());
        List<Method> choices = new ArrayList<>(methods);
        for (String name : OFTEN) {
            for (Method method : methods) {
                if (method.getName().equals(name)) {
                    choices.add(method);
                    choices.add(method);
                }
            }
        }
        for (int seed = 0; seed < RUNS; seed++) {
            new AgainstModelTest(seed).go(seed, choices);
        }
        Check.end();
    }

    private void go(int seed, List<Method> choices) throws Exception {
        while (story.size() < CALLS) {
            Method method = choices.get(random.nextInt(choices.size()));
            if (isSkipped(method.getName())) {
                continue;
            }
            if (method.getName().equals("run")) {
                type(textOfOrders(), choices);
            }
            if (!isSame(method, argumentsOf(method))) {
                Check.complain("seed " + seed + ": " + String.join("; ", story.subList(Math.max(0, story.size() - 40),
                    story.size())));
                return;
            }
        }
    }

    // So that some runs keep what they reach, and some get short of prints and of string.
    private boolean isSkipped(String name) {
        if (isTame && name.matches("restore|undo")) {
            return random.nextInt(8) > 0;
        }
        if (isDry && name.equals("potato")) {
            return model.account(4) > 0 && random.nextInt(30) > 0;
        }
        return isDry && name.matches("ink|string") && random.nextInt(30) > 0;
    }

    private void type(String text, List<Method> choices) throws Exception {
        for (Method method : choices) {
            if (method.getName().equals("append")) {
                for (int n = 0; n < text.length(); n++) {
                    isSame(method, new Object[] {text.charAt(n)});
                }
                return;
            }
        }
    }

    // Behind its last promised call an object is asked nothing more.
    private boolean isSame(Method method, Object[] arguments) throws Exception {
        if (story.size() >= CALLS) {
            return true;
        }
        Method other = Model.class.getMethod(method.getName(), method.getParameterTypes());
        String due = answerOf(other, model, arguments);
        String got = answerOf(method, real, arguments);
        story.add(method.getName() + java.util.Arrays.toString(arguments) + " = " + got
            + (got.equals(due) ? "" : " (due is " + due + ")"));
        return got.equals(due);
    }

    private static String answerOf(Method method, Object target, Object[] arguments) throws Exception {
        try {
            Object answer = method.invoke(target, arguments);
            return answer instanceof Float f ? "float " + Float.floatToIntBits(f) : String.valueOf(answer);
        } catch (InvocationTargetException e) {
            return "throws." + e.getCause().getClass().getName();
        }
    }

    private Object[] argumentsOf(Method method) {
        Class<?>[] types = method.getParameterTypes();
        Object[] arguments = new Object[types.length];
        for (int n = 0; n < types.length; n++) {
            if (types[n] == boolean.class) {
                arguments[n] = random.nextBoolean();
            } else if (types[n] == char.class) {
                arguments[n] = "wshtfp0123456789>*/@;x".charAt(random.nextInt(22));
            } else {
                arguments[n] = numberFor(method.getName(), n);
            }
        }
        return arguments;
    }

    private int numberFor(String name, int place) {
        if (random.nextInt(40) == 0) {
            return new int[] {-1, Integer.MIN_VALUE, Integer.MAX_VALUE, 20, 41, 61, 121, 7}[random.nextInt(8)];
        }
        int items = Math.max(1, model.account(2));
        return switch (name + place) {
            case "crayon0" -> 9 + random.nextInt(113);
            case "letter0", "parcel0", "take0", "read0", "inHole0" -> random.nextInt(isTame ? 6 : 7);
            case "letter1", "parcel1" -> random.nextInt(isTame ? 2 : 7);
            case "letter2", "lettersOf1", "lettersAgain1" -> random.nextInt(isTame ? 12 : 42);
            case "letter3", "crayonOf0", "lettersOf0", "lettersAgain0" -> random.nextInt(model.account(1) + 1);
            case "parcel2", "parcel3", "parcel4" -> 1 + random.nextInt(isTame ? 2 : 9);
            case "stringFor0", "stringFor1", "stringFor2" -> random.nextInt(11);
            case "itemOf0", "reads0", "sign0", "stamp0", "shelve0" -> random.nextInt(items + 1);
            case "itemOf1" -> random.nextInt(8);
            case "string0", "snacks0" -> random.nextInt(22);
            case "ranked0" -> random.nextInt(items + 1);
            case "firmness0", "print0", "stampsOf0", "stamp1" -> random.nextInt(model.account(4) + 1);
            case "ink0" -> random.nextInt(52);
            case "shelve1", "inHole1" -> random.nextInt(2);
            case "inHole2" -> random.nextInt(3);
            case "feed0" -> random.nextInt(11);
            case "pass0" -> random.nextInt(isTame ? 4 : 62);
            case "account0" -> random.nextInt(16);
            default -> throw new IllegalStateException("no numbers for " + name + place);
        };
    }

    private String textOfOrders() {
        StringBuilder text = new StringBuilder();
        int orders = 1 + random.nextInt(5);
        int items = model.account(2);
        for (int n = 0; n < orders; n++) {
            text.append(n == 0 ? "" : ";");
            int item = random.nextInt(Math.max(1, items + 1));
            switch (random.nextInt(6)) {
                case 0 -> text.append('w').append(random.nextInt(6)).append('>').append(random.nextInt(6)).append('*')
                    .append(random.nextInt(20)).append('/').append(random.nextInt(Math.max(1, model.account(1))));
                case 1 -> text.append('s').append(item < 10 && random.nextBoolean() ? "0" : "").append(item).append('@')
                    .append(random.nextInt(Math.max(1, model.account(4))));
                case 2 -> text.append('h').append(item);
                case 3 -> text.append('t').append(random.nextInt(3));
                case 4 -> text.append('f').append(random.nextInt(4));
                default -> text.append('p').append(random.nextInt(isTame ? 4 : 70));
            }
        }
        if (random.nextInt(4) == 0) {
            text.setCharAt(random.nextInt(text.length()), "wshtfp0123456789>*/@;x".charAt(random.nextInt(22)));
        }
        if (random.nextInt(8) == 0) {
            text.setLength(random.nextInt(text.length()));
        }
        return text.toString();
    }
}
