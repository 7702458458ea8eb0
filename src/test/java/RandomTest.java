import java.lang.reflect.InvocationTargetException;
import java.lang.reflect.Method;
import java.util.ArrayList;
import java.util.Arrays;
import java.util.HashMap;
import java.util.List;
import java.util.Map;
import java.util.Random;

/** Random runs of calls, the same on every machine, with the answers of the ledger and of the model side by side. */
public final class RandomTest {
    private static final int RUNS = Integer.getInteger("runs", 600);
    private static final int CALLS = 500;

    // A letter for each argument: f franchisee, g another one, o outlet, p plan, x cell, X end of a rectangle, m month, a amount,
    // s sales, r radius, c percent, t part, k kind, w worth, v member, b boolean, n place or index, e entries, l slot.
    private static final String[] CALLS_OF_THE_FACE = {
        "count n", "month", "owner xx", "area f", "perimeter f", "border fg", "isConnected f", "distance fxx",
        "cede fgxxXX", "cede fgxxXX", "cede fgxxXX", "outletOwner o", "outletCell o", "openOutlet fxx", "openOutlet fxx",
        "bestSite f", "coverage fr", "rivalCells fg", "halvingLine f", "royalty ps", "planOf f", "setPlan fp",
        "cheapestPlan f", "reportSales os", "reportSales os", "reportSales os", "deliver oxxs", "deliver oxxs",
        "deliver oxxs", "sales o", "salesOf fm", "ranked n", "creditDue fg", "closeMonth", "closeMonth", "closeMonth",
        "closeMonth", "invoice fmt", "invoice fmt", "predictDue fc", "balance f", "totalOwed", "pay fa", "pay fa",
        "monthsOverdue f", "payOff fa", "terminate f", "terminate f", "status f", "fundBalance", "contributions f",
        "spent k", "campaign a", "campaign a", "grant fa", "grant fa", "allowance f", "nationalShare f",
        "requestTransfer fwa", "requestTransfer fwa", "requestTransfer fwa", "vote fvb", "vote fvb", "vote fvb",
        "vote fvb", "vote fvb", "exercise f", "withdraw f", "transferState f", "transferWait f", "generation f",
        "worth f", "saveSnapshot l", "restoreSnapshot l", "formatInvoice fm", "formattedByte n", "runJournal e",
        "runJournal e", "errorCode", "errorPosition", "truncateInput n",
    };
    private static final String[] SIGHTS = {
        "month", "area f", "perimeter f", "isConnected f", "outletOwner o", "sales o", "planOf f", "balance f",
        "monthsOverdue f", "status f", "fundBalance", "contributions f", "allowance f", "nationalShare f",
        "transferState f", "transferWait f", "generation f", "worth f", "predictDue f", "bestSite f", "totalOwed",
    };
    private static final String[] NAMES = {"ann", "bob", "cy", "sales", "yes", "abcdefghij", "z", "close", "no", "ed"};

    private final Random random;
    private final FranchiseLedger ledger = new FranchiseLedger();
    private final Model model = new Model();
    private final Map<String, Method> ledgerMethods = methodsOf(FranchiseLedger.class);
    private final Map<String, Method> modelMethods = methodsOf(Model.class);
    private final List<String> history = new ArrayList<>();
    private int lastFranchisee = 0;
    private boolean wrong = false;

    private RandomTest(long seed) {
        random = new Random(seed);
    }

    public static void main(String[] args) throws IllegalAccessException {
        for (int seed = 1; seed <= RUNS; seed++) {
            new RandomTest(seed).run(seed);
        }
        Check.end();
    }

    private void run(int seed) throws IllegalAccessException {
        feed(systemText(), "load");
        int closings = seed % 5;
        for (int i = 0; i < CALLS && !wrong; i++) {
            int choice = random.nextInt(700);
            if (random.nextInt(50) < closings) {
                compare("closeMonth");
            }
            if (choice == 0) {
                feed(systemText(), "load");
            } else if (choice < 3) {
                feed(spoiled(systemText()), "load");
            } else if (choice < 20) {
                feed(journalText(), "loadJournal");
            } else if (choice < 25) {
                feed(spoiled(journalText()), "loadJournal");
            } else if (choice < 28) {
                feed(spoiled(NAMES[random.nextInt(NAMES.length)]), "find");
            } else {
                String[] call = CALLS_OF_THE_FACE[random.nextInt(CALLS_OF_THE_FACE.length)].split(" ");
                compare(call[0], arguments(call));
                compareSights();
            }
        }
        if (wrong) {
            int from = Math.max(0, history.size() - 40);
            System.out.println("seed " + seed + ":\n  " + String.join("\n  ", history.subList(from, history.size())));
        }
    }

    private static Map<String, Method> methodsOf(Class<?> type) {
        Map<String, Method> methods = new HashMap<>();
        for (Method method : type.getDeclaredMethods()) {
            if (!java.lang.reflect.Modifier.isPrivate(method.getModifiers())) {
                methods.put(method.getName(), method);
            }
        }
        return methods;
    }

    private void compare(String name, Object... arguments) throws IllegalAccessException {
        String got = answer(ledgerMethods.get(name), ledger, arguments);
        String want = answer(modelMethods.get(name), model, arguments);
        String call = name + Arrays.toString(arguments);
        history.add(call + " = " + got);
        if (!got.equals(want)) {
            wrong = true;
            Check.report(call, want, got);
        }
    }

    private static String answer(Method method, Object target, Object[] arguments) throws IllegalAccessException {
        try {
            return String.valueOf(method.invoke(target, arguments));
        } catch (InvocationTargetException e) {
            return "throws." + e.getCause().getClass().getSimpleName();
        }
    }

    /** A few sights of the state after a call show what it has changed besides its answer. */
    private void compareSights() throws IllegalAccessException {
        for (int i = 0; i < 3; i++) {
            String[] call = SIGHTS[random.nextInt(SIGHTS.length)].split(" ");
            if (call[0].equals("predictDue")) {
                compare("predictDue", franchisee(), 100);
            } else {
                compare(call[0], arguments(call));
            }
        }
    }

    private void feed(String text, String reader) throws IllegalAccessException {
        String cut = text.length() > 1500 ? text.substring(0, 1500) : text;
        Check.put(ledger, cut);
        model.truncateInput(0);
        byte[] padded = Arrays.copyOf(cut.getBytes(java.nio.charset.StandardCharsets.ISO_8859_1), 1500);
        java.nio.ByteBuffer words = java.nio.ByteBuffer.wrap(padded);
        for (int i = 0; i < 75; i++) {
            model.appendInput(words.getInt(), words.getInt(), words.getInt(), words.getInt(), words.getInt());
        }
        model.truncateInput(cut.length());
        history.add("text " + cut);
        compare(reader);
        compare("errorCode");
        compare("errorPosition");
        for (int what = 0; what < 4; what++) {
            compare("count", what);
        }
    }

    private int below(int bound) {
        return random.nextInt(bound);
    }

    private Object[] arguments(String[] call) {
        String letters = call.length > 1 ? call[1] : "";
        Object[] arguments = new Object[letters.length()];
        for (int i = 0; i < arguments.length; i++) {
            arguments[i] = argument(letters.charAt(i), i >= 2 ? arguments[i - 2] : null);
        }
        return arguments;
    }

    private Object argument(char letter, Object before) {
        boolean odd = below(60) == 0;
        int[] edges = {-1, Integer.MIN_VALUE, Integer.MAX_VALUE, 30, 29, 0, 8, 16, 60, 100};
        if ("asA".indexOf(letter) >= 0) {
            long[] longs = {0, -1, 1, Long.MIN_VALUE, Long.MAX_VALUE, 10000000, 10000001, 1000000000, 1000000001};
            return odd ? longs[below(longs.length)] : amount(letter);
        }
        if (letter == 'b') {
            return random.nextBoolean();
        }
        return odd ? (Object) edges[below(edges.length)] : number(letter, before);
    }

    private Object amount(char letter) {
        long[] bounds = letter == 'a' ? new long[] {10, 1000, 100000, 5000000, 100000000}
                : new long[] {100, 20000, 1000000, 10000000};
        return 1L + (long) (random.nextDouble() * bounds[below(bounds.length)]);
    }

    private int franchisee() {
        lastFranchisee = below(Math.max(1, ledger.count(1)));
        return lastFranchisee;
    }

    private Object number(char letter, Object before) {
        switch (letter) {
            case 'f':
                return franchisee();
            case 'g':
                return below(10) == 0 ? franchisee() : (lastFranchisee + 1 + below(2)) % Math.max(1, ledger.count(1));
            case 'o':
                return below(ledger.count(2) + 1);
            case 'p':
                return below(ledger.count(0) + 1);
            case 'x':
                return below(below(3) == 0 ? 30 : 10);
            case 'X':
                return (int) before + 1 + below(below(4) == 0 ? 12 : 4);
            case 'm':
                return below(ledger.month() + 1);
            case 'r':
                return below(below(3) == 0 ? 60 : 8);
            case 'c':
                return below(310);
            case 't':
                return below(8);
            case 'k':
                return below(4) - (below(9) == 0 ? 1 : 0);
            case 'w':
                return below(1000);
            case 'v':
                return below(5);
            case 'e':
                return 1 + below(12);
            case 'l':
                return below(2);
            default:
                return below(below(2) == 0 ? 10 : 120);
        }
    }

    private String systemText() {
        StringBuilder text = new StringBuilder();
        int plans = 1 + below(4);
        for (int i = 0; i < plans; i++) {
            text.append("plan ").append(below(1001)).append(' ').append(below(3001));
            int threshold = 0;
            for (int tier = below(5); tier > 0; tier--) {
                threshold += 1 + below(below(2) == 0 ? 20000 : 900);
                text.append(' ').append(threshold).append("  ").append(below(3001));
            }
            text.append(";\n");
        }
        int franchisees = 1 + below(below(3) == 0 ? 8 : 4);
        int first = below(NAMES.length);
        for (int i = 0; i < franchisees; i++) {
            String name = NAMES[(first + i) % NAMES.length];
            text.append("franchisee ").append(name).append(' ').append(below(plans)).append(' ').append(below(1000))
                    .append(';');
            appendTerritory(text, name, i);
        }
        appendTerms(text);
        return text.toString();
    }

    /** Columns of three for the first franchisees, with some holes, so that borders and conflicts are common. */
    private void appendTerritory(StringBuilder text, String name, int column) {
        int x = column * 3;
        int height = 1 + below(below(4) == 0 ? 29 : 9);
        if (below(8) == 0) {
            return;
        }
        text.append("area ").append(name).append(' ').append(x).append(" 0 ").append(x + 3).append(' ').append(height)
                .append(';');
        if (below(6) == 0) {
            int y = below(29);
            text.append("area ").append(name).append(' ').append(x).append(' ').append(y).append(' ').append(x + 2)
                    .append(' ').append(y + 1).append(';');
        }
        for (int i = below(4); i > 0; i--) {
            text.append("outlet ").append(name).append(' ').append(x + i % 3).append(' ').append(below(height))
                    .append(';');
        }
    }

    private void appendTerms(StringBuilder text) {
        int[] bounds = {5001, 501, 2001, 10000, 6, 1000};
        String[] words = {"credit", "interest", "admin", "fee", "delay", "worth"};
        for (int i = 0; i < words.length; i++) {
            if (below(5) > 0) {
                text.append(words[i]).append(below(bounds[i] / (i == 5 ? 4 : 1)));
                text.append(i == 0 ? " " + below(10000) : "").append(" ;");
            }
        }
    }

    private String journalText() {
        StringBuilder text = new StringBuilder();
        for (int i = below(below(6) == 0 ? 44 : 14); i > 0; i--) {
            String name = NAMES[below(NAMES.length)];
            String[] entries = {
                "sales " + below(16) + " " + below(100001), "sales " + below(4) + " " + below(9001),
                "deliver " + below(5) + " " + below(9) + " " + below(9) + " " + (1 + below(3000)),
                "pay " + name + " " + (1 + below(90000)), "grant " + name + " " + (1 + below(900)),
                "campaign " + (1 + below(900)), "vote " + name + " " + below(5) + (below(3) == 0 ? " no" : " yes"),
                "close", "close",
            };
            text.append(entries[below(entries.length)]).append(below(4) == 0 ? " ;\n" : ";");
        }
        // Names that are unknown here would end nearly every text at its first word.
        String known = text.toString();
        for (String name : NAMES) {
            Check.put(ledger, name);
            if (ledger.find() < 0) {
                known = known.replaceAll("(pay|grant|vote) " + name + " ", "$1 " + anyName() + " ");
            }
        }
        return known;
    }

    private String anyName() {
        for (int i = 0; i < 30; i++) {
            String name = NAMES[below(NAMES.length)];
            Check.put(ledger, name);
            if (ledger.find() >= 0) {
                return name;
            }
        }
        return "ann";
    }

    private String spoiled(String text) {
        String[] signs = {"", ";", " ", "0", "9", "1000000", "a", "plan", "outlet", "A", "\u00ff", "\n", "31", "99999", ";;",
            "franchisee ", "abcdefghijk", "\u0000", "-"};
        StringBuilder spoiled = new StringBuilder(text);
        int at = below(text.length() + 1);
        int to = Math.min(text.length(), at + below(3));
        return spoiled.replace(at, to, signs[below(signs.length)]).toString();
    }
}
