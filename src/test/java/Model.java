import java.math.BigInteger;
import java.nio.charset.StandardCharsets;
import java.util.ArrayDeque;
import java.util.ArrayList;
import java.util.Arrays;
import java.util.Deque;
import java.util.HashMap;
import java.util.HashSet;
import java.util.List;
import java.util.Map;
import java.util.Set;

/**
 * The document once more, written another way than the class and without a thought for room or speed: RandomTest
 * compares the answers of both. Its methods bear the names of the face.
 */
final class Model {
    private static final Set<String> RESERVED = Set.of("plan", "franchisee", "area", "outlet", "credit", "interest",
            "admin", "fee", "delay", "worth");

    private static final class Plan {
        int advertising;
        List<long[]> steps = new ArrayList<>();
    }

    private static final class Cell {
        static int of(int x, int y) {
            return 100 * y + x;
        }

        static int distance(int a, int b) {
            return Math.abs(a / 100 - b / 100) + Math.abs(a % 100 - b % 100);
        }

        static List<Integer> neighbours(int cell) {
            return List.of(cell - 100, cell + 100, cell - 1, cell + 1);
        }

        static List<Integer> within(int x1, int y1, int x2, int y2) {
            List<Integer> cells = new ArrayList<>();
            for (int y = y1; y < y2; y++) {
                for (int x = x1; x < x2; x++) {
                    cells.add(of(x, y));
                }
            }
            return cells;
        }
    }

    private static final class Franchisee {
        String name;
        int plan;
        int worth;
        int status = 0;
        long balance = 0;
        int generation = 0;
        int overdue = 0;
        Set<Integer> territory = new HashSet<>();
        List<Long> history = new ArrayList<>();
        List<long[]> invoices = new ArrayList<>();
        long contributed = 0;
        long granted = 0;
        int transfer = 0;
        int transferMonth = 0;
        int buyerWorth = 0;
        long price = 0;
        Map<Integer, Boolean> votes = new HashMap<>();

        Franchisee copy() {
            Franchisee c = new Franchisee();
            c.name = name;
            c.plan = plan;
            c.worth = worth;
            c.status = status;
            c.balance = balance;
            c.generation = generation;
            c.overdue = overdue;
            c.territory = new HashSet<>(territory);
            c.history = new ArrayList<>(history);
            c.invoices = new ArrayList<>(invoices);
            c.contributed = contributed;
            c.granted = granted;
            c.transfer = transfer;
            c.transferMonth = transferMonth;
            c.buyerWorth = buyerWorth;
            c.price = price;
            c.votes = new HashMap<>(votes);
            return c;
        }
    }

    private static final class Outlet {
        Franchisee owner;
        int cell;
        long sales = 0;
    }

    private static final class World {
        List<Plan> plans = new ArrayList<>();
        List<Franchisee> franchisees = new ArrayList<>();
        List<Outlet> outlets = new ArrayList<>();
        Map<String, Integer> terms = new HashMap<>();
        Map<String, Long> deliveries = new HashMap<>();
        long[] spent = new long[3];
        int month = 0;

        int term(String name) {
            return terms.getOrDefault(name, 0);
        }

        World copy() {
            World c = new World();
            c.plans = plans;
            c.terms = terms;
            for (Franchisee f : franchisees) {
                c.franchisees.add(f.copy());
            }
            for (Outlet o : outlets) {
                Outlet d = new Outlet();
                d.owner = o.owner == null ? null : c.franchisees.get(franchisees.indexOf(o.owner));
                d.cell = o.cell;
                d.sales = o.sales;
                c.outlets.add(d);
            }
            c.deliveries = new HashMap<>(deliveries);
            c.spent = spent.clone();
            c.month = month;
            return c;
        }
    }

    private static final class TextError extends Exception {
        private static final long serialVersionUID = 1L;
        final int code;
        final int position;

        TextError(int code, int position) {
            this.code = code;
            this.position = position;
        }
    }

    private record Token(String text, int position) {
        boolean isWord() {
            return text.matches("[a-z]{1,10}");
        }

        boolean isNumber() {
            return text.matches("[0-9]{1,6}");
        }
    }

    /** The tokens of a text; one with the text "" stands at its end. */
    private static final class Parser {
        final List<Token> tokens = new ArrayList<>();
        int next = 0;

        Parser(String text) {
            java.util.regex.Matcher m = java.util.regex.Pattern.compile("[a-z]+|[0-9]+|[^ \n]").matcher(text);
            while (m.find()) {
                tokens.add(new Token(m.group(), m.start()));
            }
            tokens.add(new Token("", text.length()));
        }

        Token take() {
            return tokens.get(next++);
        }

        boolean atEnd() {
            return tokens.get(next).text.isEmpty();
        }

        int number(int least, int most, int extraCode) throws TextError {
            Token token = take();
            List<Integer> codes = new ArrayList<>();
            if (!token.isNumber()) {
                codes.add(1);
            } else if (Integer.parseInt(token.text) < least || Integer.parseInt(token.text) > most) {
                codes.add(2);
            }
            if (extraCode > 0) {
                codes.add(extraCode);
            }
            if (!codes.isEmpty()) {
                throw new TextError(codes.get(0), token.position);
            }
            return Integer.parseInt(token.text);
        }

        int number(int least, int most) throws TextError {
            return number(least, most, 0);
        }

        Token name() throws TextError {
            Token token = take();
            if (!token.isWord() || RESERVED.contains(token.text)) {
                throw new TextError(1, token.position);
            }
            return token;
        }

        int known(World w) throws TextError {
            Token token = name();
            for (int i = 0; i < w.franchisees.size(); i++) {
                if (w.franchisees.get(i).name.equals(token.text)) {
                    return i;
                }
            }
            throw new TextError(3, token.position);
        }

        void end() throws TextError {
            Token token = take();
            if (!token.text.equals(";")) {
                throw new TextError(1, token.position);
            }
        }
    }

    private World w = new World();
    private final World[] saved = new World[2];
    private String buffer = "";
    private int code = 0;
    private int position = -1;
    private Deque<String[]> journal = new ArrayDeque<>();
    private String formatted = "";

    int appendInput(int w0, int w1, int w2, int w3, int w4) {
        if (buffer.length() + 20 > 1500) {
            return -1;
        }
        byte[] bytes = new byte[20];
        java.nio.ByteBuffer.wrap(bytes).putInt(w0).putInt(w1).putInt(w2).putInt(w3).putInt(w4);
        buffer += new String(bytes, StandardCharsets.ISO_8859_1);
        return buffer.length();
    }

    int truncateInput(int length) {
        if (length < 0 || length > buffer.length()) {
            return -1;
        }
        buffer = buffer.substring(0, length);
        return length;
    }

    int load() {
        String text = buffer;
        buffer = "";
        World fresh = new World();
        int statements = 0;
        try {
            Parser p = new Parser(text);
            while (!p.atEnd()) {
                statement(p, fresh);
                statements++;
            }
        } catch (TextError e) {
            code = e.code;
            position = e.position;
            return -4;
        }
        code = 0;
        position = -1;
        w = fresh;
        journal = new ArrayDeque<>();
        saved[0] = null;
        saved[1] = null;
        return statements;
    }

    private void statement(Parser p, World s) throws TextError {
        Token word = p.take();
        switch (word.text) {
            case "plan" -> {
                if (s.plans.size() == 4) {
                    throw new TextError(4, word.position);
                }
                Plan plan = new Plan();
                plan.advertising = p.number(0, 1000);
                plan.steps.add(new long[] {0, p.number(0, 3000)});
                long before = 0;
                while (!p.tokens.get(p.next).text.equals(";")) {
                    before = p.number((int) before + 1, 99999, plan.steps.size() == 5 ? 4 : 0);
                    plan.steps.add(new long[] {before * 100, p.number(0, 3000)});
                }
                s.plans.add(plan);
            }
            case "franchisee" -> {
                if (s.franchisees.size() == 8) {
                    throw new TextError(4, word.position);
                }
                Franchisee f = new Franchisee();
                Token name = p.name();
                if (s.franchisees.stream().anyMatch(other -> other.name.equals(name.text))) {
                    throw new TextError(3, name.position);
                }
                f.name = name.text;
                f.plan = p.number(0, s.plans.size() - 1);
                f.worth = p.number(0, 999);
                s.franchisees.add(f);
            }
            case "area" -> {
                Franchisee f = s.franchisees.get(p.known(s));
                int x1 = p.number(0, 29);
                int y1 = p.number(0, 29);
                int x2 = p.number(x1 + 1, 30);
                int y2 = p.number(y1 + 1, 30);
                List<Integer> cells = Cell.within(x1, y1, x2, y2);
                for (Franchisee other : s.franchisees) {
                    if (other != f && cells.stream().anyMatch(other.territory::contains)) {
                        throw new TextError(5, p.tokens.get(p.next - 1).position);
                    }
                }
                f.territory.addAll(cells);
            }
            case "outlet" -> {
                if (s.outlets.size() == 16) {
                    throw new TextError(4, word.position);
                }
                Outlet o = new Outlet();
                o.owner = s.franchisees.get(p.known(s));
                int x = p.number(0, 29);
                o.cell = Cell.of(x, p.number(0, 29));
                if (!o.owner.territory.contains(o.cell)
                        || s.outlets.stream().anyMatch(other -> other.cell == o.cell)) {
                    throw new TextError(5, p.tokens.get(p.next - 1).position);
                }
                s.outlets.add(o);
            }
            case "credit" -> {
                s.terms.put("credit", p.number(0, 5000));
                s.terms.put("cap", p.number(0, 9999));
            }
            case "interest" -> s.terms.put("interest", p.number(0, 500));
            case "admin" -> s.terms.put("admin", p.number(0, 2000));
            case "fee" -> s.terms.put("fee", p.number(0, 9999));
            case "delay" -> s.terms.put("delay", p.number(0, 12));
            case "worth" -> s.terms.put("worth", p.number(0, 999));
            default -> throw new TextError(1, word.position);
        }
        p.end();
    }

    int errorCode() {
        return code;
    }

    int errorPosition() {
        return position;
    }

    int find() {
        String name = buffer;
        buffer = "";
        for (int i = 0; i < w.franchisees.size(); i++) {
            if (w.franchisees.get(i).name.equals(name)) {
                return i;
            }
        }
        return -1;
    }

    int loadJournal() {
        String text = buffer;
        buffer = "";
        Deque<String[]> fresh = new ArrayDeque<>();
        try {
            Parser p = new Parser(text);
            while (!p.atEnd()) {
                fresh.add(entry(p, fresh.size()));
            }
        } catch (TextError e) {
            code = e.code;
            position = e.position;
            return -4;
        }
        code = 0;
        position = -1;
        journal = fresh;
        return fresh.size();
    }

    private String[] entry(Parser p, int before) throws TextError {
        Token word = p.take();
        if (!Set.of("sales", "deliver", "pay", "grant", "campaign", "vote", "close").contains(word.text)) {
            throw new TextError(1, word.position);
        }
        if (before == 40) {
            throw new TextError(4, word.position);
        }
        List<String> e = new ArrayList<>(List.of(word.text));
        switch (word.text) {
            case "sales" -> {
                e.add("" + p.number(0, 15));
                e.add("" + p.number(0, 100000));
            }
            case "deliver" -> {
                e.add("" + p.number(0, 15));
                e.add("" + p.number(0, 29));
                e.add("" + p.number(0, 29));
                e.add("" + p.number(1, 100000));
            }
            case "pay", "grant" -> {
                e.add("" + p.known(w));
                e.add("" + p.number(1, 999999));
            }
            case "campaign" -> e.add("" + p.number(1, 999999));
            case "vote" -> {
                e.add("" + p.known(w));
                e.add("" + p.number(0, 4));
                Token answer = p.take();
                if (!answer.text.equals("yes") && !answer.text.equals("no")) {
                    throw new TextError(1, answer.position);
                }
                e.add(answer.text);
            }
            default -> {
            }
        }
        p.end();
        return e.toArray(new String[0]);
    }

    int runJournal(int entries) {
        argument(entries >= 1 && entries <= 40);
        int done = 0;
        for (int i = 0; i < entries && !journal.isEmpty(); i++) {
            String[] e = journal.remove();
            try {
                if (execute(e)) {
                    done++;
                }
            } catch (RuntimeException failure) {
                continue;
            }
        }
        return done;
    }

    private boolean execute(String[] e) {
        int[] n = new int[e.length];
        for (int i = 1; i < e.length; i++) {
            n[i] = e[i].matches("[0-9]+") ? Integer.parseInt(e[i]) : 0;
        }
        return switch (e[0]) {
            case "sales" -> reportSales(n[1], n[2] * 100L) >= 0;
            case "deliver" -> deliver(n[1], n[2], n[3], n[4] * 100L) >= 0;
            case "grant" -> grant(n[1], n[2] * 100L);
            case "campaign" -> campaign(n[1] * 100L);
            case "vote" -> vote(n[1], n[2], e[3].equals("yes")) != -1;
            case "pay" -> {
                pay(n[1], n[2] * 100L);
                yield true;
            }
            default -> closeMonth() > 0;
        };
    }

    int count(int what) {
        return switch (what) {
            case 0 -> w.plans.size();
            case 1 -> w.franchisees.size();
            case 2 -> w.outlets.size();
            case 3 -> journal.size();
            default -> -1;
        };
    }

    int month() {
        return w.month;
    }

    int owner(int x, int y) {
        cell(x, y);
        for (int i = 0; i < w.franchisees.size(); i++) {
            if (w.franchisees.get(i).territory.contains(Cell.of(x, y))) {
                return i;
            }
        }
        return -1;
    }

    int area(int franchisee) {
        return franchisee(franchisee).territory.size();
    }

    int perimeter(int franchisee) {
        Set<Integer> territory = franchisee(franchisee).territory;
        return (int) territory.stream().flatMap(c -> Cell.neighbours(c).stream()).filter(c -> !territory.contains(c))
                .count();
    }

    int border(int franchisee, int other) {
        Set<Integer> one = franchisee(franchisee).territory;
        Set<Integer> two = franchisee(other).territory;
        return one == two ? 0
                : (int) one.stream().flatMap(c -> Cell.neighbours(c).stream()).filter(two::contains).count();
    }

    boolean isConnected(int franchisee) {
        return connected(franchisee(franchisee).territory);
    }

    private static boolean connected(Set<Integer> territory) {
        if (territory.isEmpty()) {
            return false;
        }
        Set<Integer> left = new HashSet<>(territory);
        Deque<Integer> todo = new ArrayDeque<>();
        int first = left.iterator().next();
        left.remove(first);
        todo.add(first);
        while (!todo.isEmpty()) {
            for (int c : Cell.neighbours(todo.remove())) {
                if (left.remove(c)) {
                    todo.add(c);
                }
            }
        }
        return left.isEmpty();
    }

    int distance(int franchisee, int x, int y) {
        Franchisee f = franchisee(franchisee);
        cell(x, y);
        return f.territory.stream().mapToInt(c -> Cell.distance(c, Cell.of(x, y))).min().orElse(-1);
    }

    int cede(int from, int to, int x1, int y1, int x2, int y2) {
        Franchisee f = franchisee(from);
        Franchisee t = franchisee(to);
        argument(f != t);
        argument(x1 >= 0 && x1 <= 29 && y1 >= 0 && y1 <= 29 && x2 > x1 && x2 <= 30 && y2 > y1 && y2 <= 30);
        if (f.status != 0 || t.status != 0) {
            return -2;
        }
        Set<Integer> moved = new HashSet<>(Cell.within(x1, y1, x2, y2));
        moved.retainAll(f.territory);
        if (moved.isEmpty()) {
            return 0;
        }
        if (w.outlets.stream().anyMatch(o -> o.owner != null && moved.contains(o.cell))) {
            return -2;
        }
        Set<Integer> less = new HashSet<>(f.territory);
        less.removeAll(moved);
        Set<Integer> more = new HashSet<>(t.territory);
        more.addAll(moved);
        if (!connected(less) || !connected(more)) {
            return -2;
        }
        f.territory = less;
        t.territory = more;
        return moved.size();
    }

    int outletOwner(int outlet) {
        return w.franchisees.indexOf(outlet(outlet).owner);
    }

    int outletCell(int outlet) {
        return outlet(outlet).cell;
    }

    int openOutlet(int franchisee, int x, int y) {
        Franchisee f = franchisee(franchisee);
        cell(x, y);
        int cell = Cell.of(x, y);
        if (f.status != 0 || !f.territory.contains(cell)
                || w.outlets.stream().anyMatch(o -> o.owner != null && o.cell == cell)) {
            return -2;
        }
        if (w.outlets.size() == 16) {
            return -3;
        }
        Outlet o = new Outlet();
        o.owner = f;
        o.cell = cell;
        w.outlets.add(o);
        return w.outlets.size() - 1;
    }

    int bestSite(int franchisee) {
        Franchisee f = franchisee(franchisee);
        List<Integer> open = w.outlets.stream().filter(o -> o.owner != null).map(o -> o.cell).toList();
        int best = -1;
        int greatest = -1;
        for (int c : f.territory.stream().sorted().toList()) {
            int near = open.stream().mapToInt(o -> Cell.distance(o, c)).min().orElse(7);
            if (!open.contains(c) && near > greatest) {
                greatest = near;
                best = c;
            }
        }
        return best;
    }

    private int nearest(Franchisee f, int c) {
        return w.outlets.stream().filter(o -> o.owner == f).mapToInt(o -> Cell.distance(o.cell, c)).min()
                .orElse(Integer.MAX_VALUE);
    }

    int coverage(int franchisee, int radius) {
        Franchisee f = franchisee(franchisee);
        argument(radius >= 0 && radius <= 58);
        return (int) f.territory.stream().filter(c -> nearest(f, c) <= radius).count();
    }

    int rivalCells(int franchisee, int other) {
        Franchisee f = franchisee(franchisee);
        Franchisee g = franchisee(other);
        argument(f != g);
        return (int) f.territory.stream().filter(c -> nearest(g, c) < nearest(f, c)).count();
    }

    int halvingLine(int franchisee) {
        Set<Integer> t = franchisee(franchisee).territory;
        int best = -1;
        long least = Long.MAX_VALUE;
        for (int line = 1; line < 130 && !t.isEmpty(); line++) {
            if (line > 29 && line < 101) {
                continue;
            }
            int k = line % 100;
            boolean vertical = line < 100;
            long before = t.stream().filter(c -> (vertical ? c % 100 : c / 100) < k).count();
            long difference = Math.abs(before - (t.size() - before));
            if (difference < least) {
                least = difference;
                best = line;
            }
        }
        return best;
    }

    private static long rate(long amount, long rate) {
        return Math.floorDiv(2 * amount * rate + 10000, 20000L);
    }

    private long royaltyOf(int plan, long sales) {
        List<long[]> steps = w.plans.get(plan).steps;
        long sum = 0;
        for (int i = 0; i < steps.size(); i++) {
            long next = i + 1 < steps.size() ? steps.get(i + 1)[0] : Long.MAX_VALUE;
            sum += Math.max(0, Math.min(sales, next) - steps.get(i)[0]) * steps.get(i)[1];
        }
        return rate(sum, 1);
    }

    long royalty(int plan, long sales) {
        index(plan, w.plans.size());
        argument(sales >= 0 && sales <= 1000000000L);
        return royaltyOf(plan, sales);
    }

    int planOf(int franchisee) {
        return franchisee(franchisee).plan;
    }

    int setPlan(int franchisee, int plan) {
        Franchisee f = franchisee(franchisee);
        index(plan, w.plans.size());
        int before = f.plan;
        f.plan = plan;
        return before;
    }

    private long present(Franchisee f) {
        return w.outlets.stream().filter(o -> o.owner == f).mapToLong(o -> o.sales).sum();
    }

    int cheapestPlan(int franchisee) {
        long sales = present(franchisee(franchisee));
        int best = 0;
        for (int i = 1; i < w.plans.size(); i++) {
            if (cost(i, sales) < cost(best, sales)) {
                best = i;
            }
        }
        return best;
    }

    private long cost(int plan, long sales) {
        return royaltyOf(plan, sales) + rate(sales, w.plans.get(plan).advertising);
    }

    long reportSales(int outlet, long amount) {
        Outlet o = outlet(outlet);
        argument(amount >= 0 && amount <= 10000000);
        state(w.month < 60);
        if (o.owner == null) {
            return -1;
        }
        long before = o.sales;
        o.sales = amount;
        return before;
    }

    long deliver(int outlet, int x, int y, long amount) {
        Outlet o = outlet(outlet);
        cell(x, y);
        argument(amount >= 1 && amount <= 10000000);
        state(w.month < 60);
        if (o.owner == null) {
            return -1;
        }
        if (o.sales + amount > 10000000) {
            return -3;
        }
        o.sales += amount;
        int to = owner(x, y);
        int from = w.franchisees.indexOf(o.owner);
        if (to != -1 && to != from && o.owner.status == 0 && w.franchisees.get(to).status == 0) {
            w.deliveries.merge(from + " " + to, amount, Long::sum);
        }
        return o.sales;
    }

    long sales(int outlet) {
        return outlet(outlet).sales;
    }

    long salesOf(int franchisee, int month) {
        Franchisee f = franchisee(franchisee);
        closed(month);
        return f.history.get(month);
    }

    int ranked(int place) {
        List<Integer> order = new ArrayList<>();
        for (int i = 0; i < w.franchisees.size(); i++) {
            order.add(i);
        }
        order.sort((a, b) -> Long.compare(total(b), total(a)));
        return place < 0 || place >= order.size() ? -1 : order.get(place);
    }

    private long total(int franchisee) {
        return w.franchisees.get(franchisee).history.stream().mapToLong(Long::longValue).sum();
    }

    long creditDue(int franchisee, int other) {
        franchisee(franchisee);
        franchisee(other);
        long sum = w.deliveries.getOrDefault(franchisee + " " + other, 0L);
        return Math.min(rate(sum, w.term("credit")), w.term("cap") * 100L);
    }

    int closeMonth() {
        state(w.month < 60);
        List<long[]> parts = new ArrayList<>();
        for (int i = 0; i < w.franchisees.size(); i++) {
            parts.add(partsFor(i, 100));
        }
        long contributed = 0;
        for (int i = 0; i < parts.size(); i++) {
            Franchisee f = w.franchisees.get(i);
            if (f.status == 0) {
                f.overdue = f.balance > 0 ? f.overdue + 1 : 0;
                f.balance += parts.get(i)[5];
                f.contributed += parts.get(i)[1];
                contributed += parts.get(i)[1];
            }
        }
        w.spent[0] += rate(contributed, w.term("admin"));
        for (Franchisee f : w.franchisees) {
            if (f.transfer == 2 && w.month - f.transferMonth >= w.term("delay")) {
                f.transfer = 4;
                f.worth = f.buyerWorth;
                f.generation++;
                f.overdue = 0;
                f.balance += w.term("fee") * 100L;
            }
        }
        for (int i = 0; i < parts.size(); i++) {
            Franchisee f = w.franchisees.get(i);
            parts.get(i)[6] = f.balance;
            f.invoices.add(parts.get(i));
            f.history.add(present(f));
        }
        w.outlets.forEach(o -> o.sales = 0);
        w.deliveries.clear();
        return ++w.month;
    }

    private long[] partsFor(int franchisee, int percent) {
        Franchisee f = w.franchisees.get(franchisee);
        long[] p = new long[7];
        if (f.status != 0) {
            return p;
        }
        long sales = w.outlets.stream().filter(o -> o.owner == f).mapToLong(o -> o.sales * percent / 100).sum();
        p[0] = royaltyOf(f.plan, sales);
        p[1] = rate(sales, w.plans.get(f.plan).advertising);
        p[2] = f.balance > 0 ? rate(f.balance, w.term("interest")) : 0;
        for (int g = 0; g < w.franchisees.size(); g++) {
            p[3] += creditDue(franchisee, g);
            p[4] += creditDue(g, franchisee);
        }
        p[5] = p[0] + p[1] + p[2] + p[3] - p[4];
        return p;
    }

    long invoice(int franchisee, int month, int part) {
        Franchisee f = franchisee(franchisee);
        closed(month);
        argument(part >= 0 && part <= 6);
        return f.invoices.get(month)[part];
    }

    long predictDue(int franchisee, int percent) {
        franchisee(franchisee);
        argument(percent >= 0 && percent <= 300);
        return partsFor(franchisee, percent)[5];
    }

    long balance(int franchisee) {
        return franchisee(franchisee).balance;
    }

    long totalOwed() {
        return w.franchisees.stream().mapToLong(f -> f.balance).filter(b -> b > 0).sum();
    }

    long pay(int franchisee, long amount) {
        Franchisee f = franchisee(franchisee);
        amount(amount);
        f.balance -= amount;
        return f.balance;
    }

    int monthsOverdue(int franchisee) {
        return franchisee(franchisee).overdue;
    }

    int payOff(int franchisee, long payment) {
        long balance = franchisee(franchisee).balance;
        amount(payment);
        int months = 0;
        while (balance > 0) {
            balance = balance + rate(balance, w.term("interest")) - payment;
            months++;
            if (months == 121) {
                return -1;
            }
        }
        return months;
    }

    boolean terminate(int franchisee) {
        Franchisee f = franchisee(franchisee);
        if (f.status != 0 || f.overdue < 3) {
            return false;
        }
        f.status = 1;
        w.outlets.stream().filter(o -> o.owner == f).forEach(o -> o.owner = null);
        f.territory.clear();
        if (isOpen(f)) {
            f.transfer = 3;
        }
        return true;
    }

    int status(int franchisee) {
        return franchisee(franchisee).status;
    }

    private long contributed() {
        return w.franchisees.stream().mapToLong(f -> f.contributed).sum();
    }

    long fundBalance() {
        return contributed() - Arrays.stream(w.spent).sum();
    }

    long contributions(int franchisee) {
        return franchisee(franchisee).contributed;
    }

    long spent(int kind) {
        argument(kind >= 0 && kind <= 2);
        return w.spent[kind];
    }

    boolean campaign(long amount) {
        amount(amount);
        if (amount > fundBalance()) {
            return false;
        }
        w.spent[1] += amount;
        return true;
    }

    boolean grant(int franchisee, long amount) {
        Franchisee f = franchisee(franchisee);
        amount(amount);
        if (f.status != 0 || amount > allowance(franchisee) || amount > fundBalance()) {
            return false;
        }
        f.granted += amount;
        w.spent[2] += amount;
        f.balance -= amount;
        return true;
    }

    long allowance(int franchisee) {
        Franchisee f = franchisee(franchisee);
        return f.contributed / 2 - f.granted;
    }

    long nationalShare(int franchisee) {
        franchisee(franchisee);
        BigInteger all = BigInteger.valueOf(contributed());
        if (all.signum() == 0) {
            return 0;
        }
        BigInteger national = BigInteger.valueOf(w.spent[1]);
        List<Integer> order = new ArrayList<>();
        List<BigInteger[]> shares = new ArrayList<>();
        long left = w.spent[1];
        for (int i = 0; i < w.franchisees.size(); i++) {
            BigInteger own = BigInteger.valueOf(w.franchisees.get(i).contributed);
            shares.add(national.multiply(own).divideAndRemainder(all));
            left -= shares.get(i)[0].longValueExact();
            order.add(i);
        }
        order.sort((a, b) -> shares.get(b)[1].compareTo(shares.get(a)[1]));
        return shares.get(franchisee)[0].longValueExact() + (order.indexOf(franchisee) < left ? 1 : 0);
    }

    private static boolean isOpen(Franchisee f) {
        return f.transfer == 1 || f.transfer == 2;
    }

    boolean requestTransfer(int franchisee, int worth, long price) {
        Franchisee f = franchisee(franchisee);
        argument(worth >= 0 && worth <= 999 && price >= 0 && price <= 1000000000L);
        if (f.status != 0 || isOpen(f) || f.balance > 0 || worth < w.term("worth")) {
            return false;
        }
        f.transfer = 1;
        f.transferMonth = w.month;
        f.buyerWorth = worth;
        f.price = price;
        f.votes.clear();
        return true;
    }

    int vote(int franchisee, int member, boolean yes) {
        Franchisee f = franchisee(franchisee);
        argument(member >= 0 && member <= 4);
        if (f.transfer != 1 || f.votes.containsKey(member)) {
            return -1;
        }
        f.votes.put(member, yes);
        if (f.votes.values().stream().filter(v -> v == yes).count() == 3) {
            f.transfer = yes ? 2 : 3;
        }
        return f.transfer;
    }

    boolean exercise(int franchisee) {
        Franchisee f = franchisee(franchisee);
        if (!isOpen(f) || w.month - f.transferMonth >= w.term("delay")) {
            return false;
        }
        f.status = 2;
        f.balance -= f.price;
        f.transfer = 5;
        return true;
    }

    boolean withdraw(int franchisee) {
        Franchisee f = franchisee(franchisee);
        if (!isOpen(f)) {
            return false;
        }
        f.transfer = 0;
        return true;
    }

    int transferState(int franchisee) {
        return franchisee(franchisee).transfer;
    }

    int transferWait(int franchisee) {
        Franchisee f = franchisee(franchisee);
        return isOpen(f) ? Math.max(0, f.transferMonth + w.term("delay") - w.month) : -1;
    }

    int generation(int franchisee) {
        return franchisee(franchisee).generation;
    }

    int worth(int franchisee) {
        return franchisee(franchisee).worth;
    }

    boolean saveSnapshot(int slot) {
        if (slot != 0 && slot != 1) {
            return false;
        }
        saved[slot] = w.copy();
        return true;
    }

    boolean restoreSnapshot(int slot) {
        if (slot != 0 && slot != 1 || saved[slot] == null) {
            return false;
        }
        w = saved[slot].copy();
        return true;
    }

    int formatInvoice(int franchisee, int month) {
        Franchisee f = franchisee(franchisee);
        closed(month);
        String[] labels = {"royalty", "ad", "interest", "paid", "received", "due", "balance"};
        List<String> words = new ArrayList<>();
        for (int i = 0; i < 7; i++) {
            words.add(labels[i]);
            words.add(java.math.BigDecimal.valueOf(f.invoices.get(month)[i], 2).toPlainString());
        }
        formatted = String.join(" ", words);
        return formatted.length();
    }

    int formattedByte(int index) {
        return index < 0 || index >= formatted.length() ? -1 : formatted.charAt(index);
    }

    private Franchisee franchisee(int franchisee) {
        index(franchisee, w.franchisees.size());
        return w.franchisees.get(franchisee);
    }

    private Outlet outlet(int outlet) {
        index(outlet, w.outlets.size());
        return w.outlets.get(outlet);
    }

    private static void index(int index, int size) {
        if (index < 0 || index >= size) {
            throw new IndexOutOfBoundsException();
        }
    }

    private static void cell(int x, int y) {
        argument(x >= 0 && x <= 29 && y >= 0 && y <= 29);
    }

    private void closed(int month) {
        argument(month >= 0 && month < w.month);
    }

    private static void amount(long amount) {
        argument(amount >= 1 && amount <= 1000000000L);
    }

    private static void argument(boolean allowed) {
        if (!allowed) {
            throw new IllegalArgumentException();
        }
    }

    private static void state(boolean allowed) {
        if (!allowed) {
            throw new IllegalStateException();
        }
    }
}
