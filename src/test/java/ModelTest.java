import java.lang.reflect.InvocationTargetException;
import java.lang.reflect.Method;
import java.util.HashMap;
import java.util.Map;
import java.util.Random;

/** Long runs of calls, chosen by a fixed seed, on IntervalRouter and on Model: the answers must be the same. */
public final class ModelTest {
    private static final int RUNS = 500;

    /** What an object answers after its 512th call is free. */
    private static final int CALLS = 512;

    /** The name of a call, a letter for each argument (see argument()), and how often it is chosen. */
    private static final String[][] CALLS_AND_ARGUMENTS = {
        {"begin", "c", "1"}, {"addLink", "nnl", "9"}, {"removeLink", "k", "1"}, {"setLength", "kl", "2"},
        {"size", "b", "1"}, {"link", "kw", "2"}, {"distance", "nn", "2"}, {"goodLinks", "nn", "2"}, {"kind", "", "2"},
        {"label", "n", "1"}, {"nodeWith", "n", "1"}, {"setLabels", "rn", "3"}, {"swapLabels", "nn", "1"},
        {"turn", "t", "1"}, {"shuffle", "s", "2"}, {"makeTables", "", "6"}, {"setRange", "nKnn", "9"},
        {"entry", "nn", "2"}, {"runs", "nk", "4"}, {"runEnd", "nkub", "5"}, {"tableSize", "N", "3"},
        {"compactness", "", "2"}, {"bestSize", "n", "3"}, {"check", "nn", "3"}, {"checked", "e", "2"},
        {"send", "nn", "4"}, {"wayNode", "nnp", "4"}, {"arriving", "", "2"}, {"stretch", "", "3"},
        {"load", "k", "3"}, {"lostWithout", "k", "3"}, {"bestCompactness", "", "1"}, {"labelings", "i", "1"},
        {"append", "v", "1"}, {"clearText", "", "1"}, {"parse", "", "1"}, {"undo", "", "2"},
    };

    private final Random random;
    private final Map<String, Method> real = new HashMap<>();
    private final Map<String, Method> model = new HashMap<>();
    private int nodes;
    private int links;
    private int calls;

    private ModelTest(long seed) {
        random = new Random(seed);
        collect(IntervalRouter.class, real);
        collect(Model.class, model);
    }

    public static void main(String[] args) {
        ModelTest test = new ModelTest(20260701L);
        for (int run = 0; run < RUNS; run++) {
            test.run(run);
        }
        Expect.end();
    }

    private static void collect(Class<?> type, Map<String, Method> into) {
        for (Method method : type.getDeclaredMethods()) {
            if (java.lang.reflect.Modifier.isPublic(method.getModifiers())) {
                into.put(method.getName(), method);
            }
        }
    }

    private void run(int run) {
        IntervalRouter x = new IntervalRouter();
        Model m = new Model();
        int largest = 2 + run % 8;
        calls = 0;
        both(run, x, m, "begin", new Object[] {1 + random.nextInt(largest)});
        if (run % 5 == 0) {
            addMany(run, x, m);
        }
        // a text of 70 bytes and one call more, with its digest, must find room
        while (calls < CALLS - 80) {
            nodes = m.size(false);
            links = m.size(true);
            if (random.nextInt(25) == 0) {
                writeText(run, x, m, largest);
            }
            String[] call = choose();
            if (call[0].equals("bestCompactness") || call[0].equals("labelings")) {
                // the model is too slow to search every time
                if (nodes == 6 && random.nextInt(6) != 0) {
                    continue;
                }
            }
            both(run, x, m, call[0], arguments(call[1], largest));
            both(run, x, m, "digest", new Object[0]);
        }
    }

    /** Dense networks, up to 16 links: single calls of addLink() come there too seldom. */
    private void addMany(int run, IntervalRouter x, Model m) {
        both(run, x, m, "begin", new Object[] {6 + random.nextInt(4)});
        int wanted = 10 + random.nextInt(7);
        for (int i = 0; i < 60 && m.size(true) < wanted; i++) {
            int u = random.nextInt(m.size(false));
            int v = random.nextInt(m.size(false));
            both(run, x, m, "addLink", new Object[] {u, v, 1 + random.nextInt(3)});
        }
    }

    private String[] choose() {
        int all = 0;
        for (String[] call : CALLS_AND_ARGUMENTS) {
            all += Integer.parseInt(call[2]);
        }
        int at = random.nextInt(all);
        for (String[] call : CALLS_AND_ARGUMENTS) {
            at -= Integer.parseInt(call[2]);
            if (at < 0) {
                return call;
            }
        }
        throw new AssertionError();
    }

    private Object[] arguments(String letters, int largest) {
        Object[] out = new Object[letters.length()];
        for (int i = 0; i < out.length; i++) {
            out[i] = argument(letters.charAt(i), largest);
        }
        return out;
    }

    private Object argument(char letter, int largest) {
        switch (letter) {
            case 'b': return random.nextBoolean();
            case 'c': return mostly(0, largest);
            case 'e': return mostly(0, 4);
            case 'i': return mostly(0, random.nextBoolean() ? 2 : 9);
            case 'k': return mostly(0, links - 1);
            case 'K': return random.nextInt(6) == 0 ? -1 : mostly(0, links - 1);
            case 'l': return random.nextInt(3) == 0 ? mostly(1, 9) : mostly(1, 2);
            case 'n': return mostly(0, nodes - 1);
            case 'N': return mostly(-1, nodes - 1);
            case 'p': return mostly(0, 10);
            case 'r': return mostly(0, nodes == 6 && random.nextInt(4) != 0 ? 2 : 3);
            case 's': return mostly(0, 999999);
            case 't': return mostly(0, 9);
            case 'u': return mostly(0, 2);
            case 'v': return mostly(0, 127);
            case 'w': return mostly(0, 2);
            default: throw new AssertionError();
        }
    }

    /** A value of the range, or now and then one outside it. */
    private int mostly(int lowest, int highest) {
        int dice = random.nextInt(60);
        if (dice == 0) {
            return lowest - 1;
        }
        if (dice == 1 || highest < lowest) {
            return highest + 1;
        }
        if (dice == 2) {
            return random.nextBoolean() ? Integer.MIN_VALUE : Integer.MAX_VALUE;
        }
        return lowest + random.nextInt(highest - lowest + 1);
    }

    private void writeText(int run, IntervalRouter x, Model m, int largest) {
        both(run, x, m, "clearText", new Object[0]);
        int count = 1 + random.nextInt(largest);
        StringBuilder text = new StringBuilder().append(Math.min(count, 9));
        int wanted = random.nextInt(18);
        for (int i = 0; i < wanted; i++) {
            text.append(';').append(random.nextInt(count)).append(random.nextInt(count)).append(1 + random.nextInt(3));
        }
        if (random.nextInt(3) == 0) {
            text.setCharAt(random.nextInt(text.length()), "0123456789; :/".charAt(random.nextInt(14)));
        }
        if (random.nextInt(4) == 0) {
            text.setLength(random.nextInt(text.length() + 1));
        }
        String cut = text.toString();
        if (random.nextInt(2) == 0) {
            cut = withoutBadLinks(cut);
        }
        for (int i = 0; i < cut.length(); i++) {
            both(run, x, m, "append", new Object[] {(int) cut.charAt(i)});
        }
        both(run, x, m, "parse", new Object[0]);
        nodes = m.size(false);
        links = m.size(true);
    }

    /** Most texts of random links have a link twice; this leaves the bad ones out. */
    private static String withoutBadLinks(String text) {
        StringBuilder out = new StringBuilder(text.isEmpty() ? "" : text.substring(0, 1));
        for (int at = 1; at + 4 <= text.length(); at += 4) {
            char u = text.charAt(at + 1);
            char v = text.charAt(at + 2);
            if (u != v && out.indexOf(";" + u + v) < 0 && out.indexOf(";" + v + u) < 0) {
                out.append(text, at, at + 4);
            }
        }
        return out.toString();
    }

    private void both(int run, IntervalRouter x, Model m, String name, Object[] arguments) {
        calls++;
        String what = "run " + run + ": " + name + java.util.Arrays.toString(arguments);
        Expect.dueText(what, answer(real.get(name), x, arguments), answer(model.get(name), m, arguments));
    }

    private static String answer(Method method, Object on, Object[] arguments) {
        try {
            return String.valueOf(method.invoke(on, arguments));
        } catch (InvocationTargetException e) {
            return e.getCause().getClass().getName();
        } catch (IllegalAccessException e) {
            throw new AssertionError(e);
        }
    }
}
