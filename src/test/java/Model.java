import java.math.BigInteger;
import java.util.ArrayList;
import java.util.HashMap;
import java.util.List;
import java.util.Map;
import java.util.regex.Matcher;
import java.util.regex.Pattern;

/** The document told a second time, by other means than the class has: regular expressions, lists, BigIntegers. */
final class Model {
    private static final String WHOLE = "\\d{1,7}";
    private static final String STEP = WHOLE + "@" + WHOLE;
    private static final String CLASS =
            "C" + WHOLE + "(?:," + WHOLE + "){5}:" + STEP + "(?:," + STEP + ")*/" + WHOLE + ";";
    private static final Pattern SHAPE = Pattern.compile("M\\d(?:" + CLASS + ")+");
    private static final Pattern ONE_CLASS = Pattern.compile(CLASS);

    private record Step(long from, long cents) {
    }

    private record Grade(List<Long> limits, List<Step> steps, long days) {
    }

    private static final class Thing {
        private int kind;
        private long value;
        private int layer;
        private long x;
        private long y;
    }

    private record Remark(int thing, long by) {
    }

    private record Quote(int maker, List<Grade> grades, long until) {
    }

    private String text = "";
    private final List<List<Grade>> makers = new ArrayList<>();
    private final List<Thing> things = new ArrayList<>();
    private final List<Remark> remarks = new ArrayList<>();
    private final List<Quote> quotes = new ArrayList<>();
    private final List<long[]> orders = new ArrayList<>();
    private final Map<Integer, long[]> copper = new HashMap<>();

    boolean unit(int u) {
        if (u < 32 || u > 126 || text.length() == 400) {
            return false;
        }
        text += (char) u;
        return true;
    }

    int maker() {
        String read = text;
        text = "";
        for (int end = 1; end <= read.length(); end++) {
            int fault = faultOf(read.substring(0, end));
            if (fault >= 0) {
                return -1 - fault;
            }
        }
        if (!SHAPE.matcher(read).matches()) {
            return -1 - read.length();
        }
        int number = read.charAt(1) - '0';
        List<Grade> grades = new ArrayList<>();
        Matcher each = ONE_CLASS.matcher(read);
        while (each.find()) {
            grades.add(gradeOf(each.group()));
        }
        if (number == makers.size()) {
            makers.add(grades);
        } else {
            makers.set(number, grades);
        }
        return number;
    }

    /** The place that the last character of a beginning makes wrong, or -1. */
    private int faultOf(String start) {
        Matcher shape = SHAPE.matcher(start);
        if (!shape.matches() && !shape.hitEnd()) {
            return start.length() - 1;
        }
        if (start.length() == 2 && start.charAt(1) - '0' > Math.min(makers.size(), 3)) {
            return 0;
        }
        if (start.endsWith(";")) {
            int place = start.lastIndexOf('C');
            boolean fifth = start.chars().filter(c -> c == ';').count() > 4;
            if (fifth || !canBe(gradeOf(start.substring(place)))) {
                return place;
            }
        }
        return -1;
    }

    private static Grade gradeOf(String text) {
        String[] parts = text.substring(1, text.length() - 1).split("[:/]");
        List<Long> limits = new ArrayList<>();
        for (String limit : parts[0].split(",")) {
            limits.add(Long.valueOf(limit));
        }
        List<Step> steps = new ArrayList<>();
        for (String step : parts[1].split(",")) {
            String[] pair = step.split("@");
            steps.add(new Step(Long.parseLong(pair[0]), Long.parseLong(pair[1])));
        }
        return new Grade(limits, steps, Long.parseLong(parts[2]));
    }

    private static boolean canBe(Grade grade) {
        boolean can = grade.days <= 1000 && grade.steps.size() <= 4;
        for (long limit : grade.limits) {
            can &= limit <= 1000000;
        }
        for (int i = 0; i < grade.steps.size(); i++) {
            Step step = grade.steps.get(i);
            can &= step.from >= 1 && step.from <= 1000000 && step.cents >= 1 && step.cents <= 1000000;
            can &= i == 0 || step.from > grade.steps.get(i - 1).from;
        }
        return can;
    }

    int thing(int kind, long v, int layer) {
        index(kind, 6);
        index(layer, 8);
        argument(v >= 0 && v <= 1000000);
        if (things.size() == 60) {
            return -1;
        }
        Thing thing = new Thing();
        thing.kind = kind;
        thing.value = v;
        thing.layer = layer;
        things.add(thing);
        return things.size() - 1;
    }

    boolean at(int number, long x, long y) {
        index(number, things.size());
        argument(x >= -1000000 && x <= 1000000 && y >= -1000000 && y <= 1000000);
        Thing thing = things.get(number);
        boolean same = thing.x == x && thing.y == y;
        thing.x = x;
        thing.y = y;
        return !same;
    }

    int run(int maker, int cls) {
        Grade grade = grade(maker, cls);
        remarks.clear();
        for (int i = 0; i < things.size(); i++) {
            long by = beyond(things.get(i), grade);
            if (by > 0) {
                remarks.add(new Remark(i, by));
            }
        }
        return remarks.size();
    }

    private static long beyond(Thing thing, Grade grade) {
        long limit = grade.limits.get(thing.kind);
        return thing.kind <= 3 ? limit - thing.value : thing.value - limit;
    }

    int remark(int k, int what) {
        index(what, 6);
        if (k < 0 || k >= remarks.size()) {
            return -1;
        }
        Remark remark = remarks.get(k);
        Thing thing = things.get(remark.thing);
        long[] parts = {remark.thing, thing.kind, remark.by, thing.layer, thing.x, thing.y};
        return (int) parts[what];
    }

    int least(int maker) {
        index(maker, makers.size());
        return leastOf(makers.get(maker));
    }

    private int leastOf(List<Grade> grades) {
        for (int i = 0; i < grades.size(); i++) {
            Grade grade = grades.get(i);
            if (things.stream().noneMatch(thing -> beyond(thing, grade) > 0)) {
                return i;
            }
        }
        return -1;
    }

    long price(int maker, int cls, long quantity) {
        Grade grade = grade(maker, cls);
        quantity(quantity);
        return priceOf(grade, quantity);
    }

    private static long priceOf(Grade grade, long quantity) {
        Step found = null;
        for (Step step : grade.steps) {
            if (step.from <= quantity && (found == null || step.from > found.from)) {
                found = step;
            }
        }
        Step first = grade.steps.get(0);
        return found == null ? first.from * first.cents : quantity * found.cents;
    }

    long share(long cents, long quantity, int k) {
        quantity(quantity);
        argument(cents >= 0);
        index(k, quantity);
        BigInteger[] both = BigInteger.valueOf(cents).divideAndRemainder(BigInteger.valueOf(quantity));
        return both[0].longValue() + (both[1].longValue() > k ? 1 : 0);
    }

    long balance(int layer, int cell, int part) {
        index(layer, 8);
        index(cell, 16);
        index(part, 2);
        BigInteger above = BigInteger.ZERO;
        BigInteger below = BigInteger.ONE;
        for (int i = 0; i < 16; i++) {
            long[] one = copper.getOrDefault(layer * 16 + i, new long[] {0, 1});
            long times = i == cell ? 15 : -1;
            BigInteger oneBelow = BigInteger.valueOf(one[1] * 16);
            above = above.multiply(oneBelow).add(BigInteger.valueOf(one[0] * times).multiply(below));
            below = below.multiply(oneBelow);
        }
        BigInteger common = above.gcd(below);
        return (part == 0 ? above : below).divide(common).longValueExact();
    }

    int quote(int maker, long until) {
        index(maker, makers.size());
        if (quotes.size() == 10) {
            return -1;
        }
        quotes.add(new Quote(maker, makers.get(maker), until));
        return quotes.size() - 1;
    }

    boolean copper(int layer, int cell, long above, long below) {
        index(layer, 8);
        index(cell, 16);
        argument(below >= 1 && below <= 10 && above >= 0 && above <= below);
        long[] old = copper.getOrDefault(layer * 16 + cell, new long[] {0, 1});
        copper.put(layer * 16 + cell, new long[] {above, below});
        return old[0] != above || old[1] != below;
    }

    int best(long quantity) {
        quantity(quantity);
        int best = -1;
        for (int i = makers.size() - 1; i >= 0; i--) {
            if (leastOf(makers.get(i)) >= 0 && (best < 0 || leastPrice(i, quantity) <= leastPrice(best, quantity))) {
                best = i;
            }
        }
        return best;
    }

    private long leastPrice(int maker, long quantity) {
        List<Grade> grades = makers.get(maker);
        return priceOf(grades.get(leastOf(grades)), quantity);
    }

    int order(int maker, long quantity, long day) {
        index(maker, makers.size());
        quantity(quantity);
        List<Grade> grades = makers.get(maker);
        int number = -1;
        for (int i = 0; i < quotes.size(); i++) {
            if (quotes.get(i).maker == maker && quotes.get(i).until >= day) {
                number = i;
                grades = quotes.get(i).grades;
            }
        }
        int cls = leastOf(grades);
        if (orders.size() == 20 || cls < 0) {
            return -1;
        }
        long price = priceOf(grades.get(cls), quantity);
        orders.add(new long[] {maker, cls, quantity, grades.get(cls).days, price / 1000, price % 1000, number});
        return orders.size() - 1;
    }

    int history(int k, int what) {
        index(k, orders.size());
        index(what, 7);
        return Math.toIntExact(orders.get(k)[what]);
    }

    void clear() {
        text = "";
        makers.clear();
        things.clear();
        remarks.clear();
        quotes.clear();
        orders.clear();
        copper.clear();
    }

    private Grade grade(int maker, int cls) {
        index(maker, makers.size());
        index(cls, makers.get(maker).size());
        return makers.get(maker).get(cls);
    }

    private static void index(int number, long many) {
        if (number < 0 || number >= many) {
            throw new IndexOutOfBoundsException();
        }
    }

    private static void quantity(long quantity) {
        argument(quantity >= 1 && quantity <= 1000000);
    }

    private static void argument(boolean can) {
        if (!can) {
            throw new IllegalArgumentException();
        }
    }
}
