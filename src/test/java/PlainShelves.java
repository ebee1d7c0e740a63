import java.util.ArrayList;
import java.util.List;
import java.util.TreeMap;
import java.util.regex.Matcher;
import java.util.regex.Pattern;

/** The same shelves in their plainest form, made from the document's words, to compare answers with. */
final class PlainShelves {
    static final int NONE = -11;
    static final int BAD = -12;
    static final int FULL = -13;
    static final int REFUSED = -14;
    static final int NOTHING = -15;
    private static final String ORDER =
            "(?:put \\d\\d?|in \\d\\d? \\d\\d?|out \\d\\d?|swap \\d\\d?|mark \\d\\d?|clear \\d\\d?)";
    private static final Pattern TEXT = Pattern.compile(ORDER + "(?:;" + ORDER + ")*");

    /** What changes can change. */
    private static final class State {
        final List<Integer> weights = new ArrayList<>();
        final boolean[] marks = new boolean[64];
        int came;
        int left;
        int swaps;

        State copy() {
            State other = new State();
            other.weights.addAll(weights);
            System.arraycopy(marks, 0, other.marks, 0, 64);
            other.came = came;
            other.left = left;
            other.swaps = swaps;
            return other;
        }
    }

    private State now = new State();
    private State saved;
    private List<State> past = new ArrayList<>();
    private String text = "";
    private String line = "";
    private int why;
    private int detail;

    private int size() {
        return now.weights.size();
    }

    private int refuse(int reason, int number) {
        why = reason;
        detail = number;
        return REFUSED;
    }

    private void keep(State before) {
        past.add(before);
        if (past.size() > 8) {
            past.remove(0);
        }
    }

    private static boolean isWeight(int weight) {
        return weight >= 0 && weight <= 31;
    }

    private boolean isPlace(int place) {
        return place >= 0 && place < size();
    }

    private boolean isPart(int from, int to) {
        return from >= 0 && to <= size() && from <= to;
    }

    int put(int weight) {
        if (!isWeight(weight)) {
            return BAD;
        }
        int answer = insert(size(), weight);
        return answer < 0 ? answer : answer - 1;
    }

    int insert(int place, int weight) {
        if (place < 0 || place > size()) {
            return NONE;
        }
        if (!isWeight(weight)) {
            return BAD;
        }
        if (size() == 64) {
            return refuse(1, 64);
        }
        keep(now.copy());
        now.weights.add(place, weight);
        now.came++;
        return size();
    }

    int take(int place) {
        if (!isPlace(place)) {
            return NONE;
        }
        keep(now.copy());
        now.left++;
        return now.weights.remove(place);
    }

    int swap(int place) {
        if (!isPlace(place) || place == size() - 1) {
            return NONE;
        }
        int first = now.weights.get(place);
        int second = now.weights.get(place + 1);
        if (first == second) {
            return refuse(2, first);
        }
        keep(now.copy());
        now.weights.set(place, second);
        now.weights.set(place + 1, first);
        now.swaps++;
        return second;
    }

    int mark(int place, boolean isMarked) {
        if (place < 1 || place > 63) {
            return NONE;
        }
        if (now.marks[place] == isMarked) {
            return refuse(3, place);
        }
        keep(now.copy());
        now.marks[place] = isMarked;
        return account(5);
    }

    int weight(int place) {
        return isPlace(place) ? now.weights.get(place) : NONE;
    }

    /** The places of the letters, in the order of a row. */
    private List<Integer> row(int row) {
        List<Integer> order = new ArrayList<>();
        for (int place = 0; place < size(); place++) {
            order.add(place);
        }
        for (int before = 0; before < row; before++) {
            List<Integer> next = new ArrayList<>();
            for (int kind = 0; kind <= 1; kind++) {
                for (int place : order) {
                    if (bitOf(now.weights.get(place), before) == kind) {
                        next.add(place);
                    }
                }
            }
            order = next;
        }
        return order;
    }

    private static int bitOf(int weight, int row) {
        return weight / new int[] {16, 8, 4, 2, 1}[row] % 2;
    }

    private String rowText(int row) {
        StringBuilder found = new StringBuilder();
        for (int place : row(row)) {
            found.append(bitOf(now.weights.get(place), row));
        }
        return found.toString();
    }

    private static boolean isRow(int row) {
        return row >= 0 && row <= 4;
    }

    int bit(int row, int place) {
        return isRow(row) && isPlace(place) ? rowText(row).charAt(place) - '0' : NONE;
    }

    long bits(int row) {
        long sum = 0;
        if (isRow(row)) {
            String found = rowText(row);
            for (int place = 0; place < found.length(); place++) {
                sum |= (long) (found.charAt(place) - '0') << place;
            }
        }
        return sum;
    }

    int rank(int row, boolean isOne, int place) {
        if (!isRow(row) || place < 0 || place > size()) {
            return NONE;
        }
        return (int) rowText(row).substring(0, place).chars().filter(sign -> sign == (isOne ? '1' : '0')).count();
    }

    int select(int row, boolean isOne, int ahead) {
        if (!isRow(row)) {
            return NONE;
        }
        int place = -1;
        for (int number = 0; number <= ahead && ahead < 64; number++) {
            place = rowText(row).indexOf(isOne ? '1' : '0', place + 1);
            if (place < 0) {
                return NOTHING;
            }
        }
        return place < 0 ? NOTHING : place;
    }

    int placeIn(int row, int place) {
        return isRow(row) && isPlace(place) ? row(row).indexOf(place) : NONE;
    }

    private List<Integer> sorted(int from, int to) {
        List<Integer> part = new ArrayList<>(now.weights.subList(from, to));
        part.sort(null);
        return part;
    }

    int quantile(int from, int to, int place) {
        return isPart(from, to) && place >= 0 && place < to - from ? sorted(from, to).get(place) : NONE;
    }

    int count(int from, int to, int weight) {
        if (!isPart(from, to)) {
            return NONE;
        }
        return isWeight(weight) ? (int) sorted(from, to).stream().filter(each -> each == weight).count() : BAD;
    }

    int lighter(int from, int to, int weight) {
        if (!isPart(from, to)) {
            return NONE;
        }
        return isWeight(weight) ? (int) sorted(from, to).stream().filter(each -> each < weight).count() : BAD;
    }

    int atLeast(int from, int to, int weight) {
        if (!isPart(from, to)) {
            return NONE;
        }
        if (!isWeight(weight)) {
            return BAD;
        }
        return sorted(from, to).stream().filter(each -> each >= weight).findFirst().orElse(NOTHING);
    }

    int find(int weight, int ahead) {
        if (!isWeight(weight)) {
            return BAD;
        }
        int left = ahead;
        for (int place = 0; place < size(); place++) {
            if (now.weights.get(place) == weight) {
                if (left == 0) {
                    return place;
                }
                left--;
            }
        }
        return NOTHING;
    }

    int common(int from, int to, int place) {
        if (!isPart(from, to)) {
            return NONE;
        }
        TreeMap<Integer, Integer> numbers = new TreeMap<>();
        for (int weight : now.weights.subList(from, to)) {
            numbers.merge(weight, 1, Integer::sum);
        }
        List<Integer> order = new ArrayList<>(numbers.keySet());
        order.sort((one, other) -> numbers.get(other) - numbers.get(one));
        return place >= 0 && place < order.size() ? order.get(place) : NONE;
    }

    private List<List<Integer>> bags() {
        List<List<Integer>> found = new ArrayList<>();
        for (int place = 0; place < size(); place++) {
            if (place == 0 || now.marks[place]) {
                found.add(new ArrayList<>());
            }
            found.get(found.size() - 1).add(place);
        }
        return found;
    }

    private int total(List<Integer> places) {
        return places.stream().mapToInt(now.weights::get).sum();
    }

    int bagOf(int bag, int what) {
        List<List<Integer>> bags = bags();
        if (bag < 0 || bag >= bags.size()) {
            return NONE;
        }
        List<Integer> places = bags.get(bag);
        int letters = places.size();
        List<Integer> sorted = sorted(places.get(0), places.get(0) + letters);
        switch (what) {
            case 0:
                return places.get(0);
            case 1:
                return letters;
            case 2:
                return total(places);
            case 3:
                return sorted.get(letters % 2 == 0 ? letters / 2 - 1 : letters / 2);
            case 4:
                return sorted.get(letters - 1);
            case 5:
                return (int) sorted.stream().distinct().count();
            default:
                return BAD;
        }
    }

    int bagAt(int place) {
        List<List<Integer>> bags = bags();
        for (int bag = 0; bag < bags.size(); bag++) {
            if (bags.get(bag).contains(place)) {
                return bag;
            }
        }
        return NONE;
    }

    int ranked(int place) {
        List<List<Integer>> bags = bags();
        List<List<Integer>> order = new ArrayList<>(bags);
        order.sort((one, other) -> total(one) != total(other) ? total(other) - total(one) : one.size() - other.size());
        return place >= 0 && place < order.size() ? bags.indexOf(order.get(place)) : NONE;
    }

    int append(int code) {
        if (code < 32 || code > 126) {
            return BAD;
        }
        if (text.length() == 60) {
            return FULL;
        }
        text += (char) code;
        return text.length();
    }

    int run() {
        String orders = text;
        text = "";
        for (int end = 1; end <= orders.length(); end++) {
            Matcher matcher = TEXT.matcher(orders.substring(0, end));
            if (!matcher.matches() && !matcher.hitEnd()) {
                return -1000 - (end - 1);
            }
        }
        if (!TEXT.matcher(orders).matches()) {
            return -1000 - orders.length();
        }
        return carryOut(orders.split(";"));
    }

    private int carryOut(String[] orders) {
        State before = now.copy();
        List<State> pastBefore = new ArrayList<>(past);
        for (int number = 0; number < orders.length; number++) {
            if (oneOrder(orders[number].split(" ")) < 0) {
                now = before;
                past = pastBefore;
                return refuse(4, number);
            }
        }
        past = pastBefore;
        keep(before);
        return orders.length;
    }

    private int oneOrder(String[] words) {
        int number = Integer.parseInt(words[1]);
        switch (words[0]) {
            case "put":
                return put(number);
            case "in":
                return insert(number, Integer.parseInt(words[2]));
            case "out":
                return take(number);
            case "swap":
                return swap(number);
            default:
                return mark(number, words[0].equals("mark"));
        }
    }

    int tell() {
        StringBuilder found = new StringBuilder();
        for (int place = 0; place < size(); place++) {
            found.append(place > 0 && now.marks[place] ? "|" : "").append(Integer.toString(now.weights.get(place), 32));
        }
        line = found.toString();
        return line.length();
    }

    int tellRow(int row) {
        if (!isRow(row)) {
            return NONE;
        }
        line = rowText(row).replaceAll("(.{8})(?=.)", "$1 ");
        return line.length();
    }

    int character(int index) {
        return index >= 0 && index < line.length() ? line.charAt(index) : NONE;
    }

    int reason(boolean isDetail) {
        return why == 0 ? NOTHING : isDetail ? detail : why;
    }

    int account(int what) {
        int sum = 0;
        switch (what) {
            case 0:
                return size();
            case 1:
                return now.weights.stream().mapToInt(each -> each).sum();
            case 2:
                return now.came;
            case 3:
                return now.left;
            case 4:
                return bags().size();
            case 5:
                for (boolean isMarked : now.marks) {
                    sum += isMarked ? 1 : 0;
                }
                return sum;
            case 6:
                return (int) now.weights.stream().distinct().count();
            case 7:
                return now.swaps;
            case 8:
                for (int row = 0; row < 5; row++) {
                    sum += rank(row, true, size());
                }
                return sum;
            case 9:
                return text.length();
            case 10:
                return past.size();
            default:
                return BAD;
        }
    }

    double meanWeight() {
        return size() == 0 ? 0.0 : (double) account(1) / (double) size();
    }

    float oneShare(int row) {
        return size() == 0 || !isRow(row) ? 0.0f : (float) rank(row, true, size()) / (float) size();
    }

    int undo() {
        if (past.isEmpty()) {
            return NOTHING;
        }
        now = past.remove(past.size() - 1);
        return past.size();
    }

    int save() {
        saved = now.copy();
        return size();
    }

    int restore() {
        if (saved == null) {
            return NOTHING;
        }
        now = saved.copy();
        past.clear();
        return size();
    }
}
