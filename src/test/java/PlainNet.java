import java.math.BigInteger;
import java.util.ArrayDeque;
import java.util.ArrayList;
import java.util.Arrays;
import java.util.Collections;
import java.util.Comparator;
import java.util.HashMap;
import java.util.HashSet;
import java.util.List;
import java.util.Map;
import java.util.Set;
import java.util.TreeSet;
import java.util.regex.Matcher;
import java.util.regex.Pattern;

/**
 * The document once more, written as slowly and as near to its words as can be, in other ways than the class:
 * sets of numbers, all orders of wishes, a search over hangings. RunsTest compares the two.
 */
final class PlainNet {
    private static final int UNKNOWN = -1, OUTSIDE = -2, STATE = -3, FULL = -4, NONE = -9;
    private static final Pattern PART =
        Pattern.compile("H(0[0-9]|1[01])|W(0[0-9]|1[01])[0-5][1-6][1-9][dl]|O(0[0-9]|1[01])[1-6]");
    private static final List<String> ALL_PARTS = allParts();
    private static final List<Set<Integer>> ALL_HANGINGS = allHangings();

    private record Wish(int place, int hour, int span, int worth, boolean dark) {
        List<Integer> hours() {
            List<Integer> hours = new ArrayList<>();
            for (int i = 0; i < span; i++) {
                hours.add((hour + i) % 6);
            }
            return hours;
        }
    }

    private record Told(int place, int hour, boolean dark) {
    }

    private record Act(char kind, int from, int to) {
    }

    private record Kept(Set<Integer> hanging, int hour) {
    }

    private String text = "";
    private List<Wish> wishes = new ArrayList<>();
    private Map<Integer, Integer> owed = new HashMap<>();
    private Set<Integer> hanging = new TreeSet<>();
    private int hourNow;
    private final ArrayDeque<Act> acts = new ArrayDeque<>();
    private final List<Told> told = new ArrayList<>();
    private BigInteger seedNow = BigInteger.ZERO;
    private final Kept[] slots = new Kept[2];

    // ---- the letting

    int write(int letter) {
        if (letter < 0 || letter > 255) {
            return OUTSIDE;
        }
        if (text.length() == 72) {
            return FULL;
        }
        text += (char) letter;
        return text.length();
    }

    int wipe() {
        int length = text.length();
        text = "";
        return length;
    }

    int fault() {
        for (int length = 1; length <= text.length(); length++) {
            if (!canGoOn(text.substring(0, length))) {
                return length - 1;
            }
        }
        return isLetting(text) ? NONE : text.length();
    }

    int letting() {
        if (fault() != NONE) {
            return STATE;
        }
        wishes = new ArrayList<>();
        owed = new HashMap<>();
        hanging = new TreeSet<>();
        for (String part : partsOf(text)) {
            int number = Integer.parseInt(part.substring(1, 3));
            switch (part.charAt(0)) {
                case 'H' -> hanging.add(number);
                case 'O' -> owed.put(number, part.charAt(3) - '0');
                default -> wishes.add(new Wish(number, part.charAt(3) - '0', part.charAt(4) - '0',
                    part.charAt(5) - '0', part.charAt(6) == 'd'));
            }
        }
        hourNow = 0;
        acts.clear();
        Arrays.fill(slots, null);
        return wishes.size();
    }

    int wish(int wish, int what) {
        if (wish < 0 || wish >= wishes.size()) {
            return UNKNOWN;
        }
        Wish asked = wishes.get(wish);
        return switch (what) {
            case 0 -> asked.place;
            case 1 -> asked.hour;
            case 2 -> asked.span;
            case 3 -> asked.worth;
            case 4 -> asked.dark ? 1 : 0;
            case 5 -> isGranted(asked, hanging) ? 1 : 0;
            case 6 -> bits(asked.hours());
            default -> OUTSIDE;
        };
    }

    int place(int place, int what) {
        if (place < 0 || place > 11) {
            return UNKNOWN;
        }
        return switch (what) {
            case 0 -> isDark(place, hourNow, hanging) ? 1 : 0;
            case 1 -> bits(darkHours(place, hanging));
            case 2 -> owed.getOrDefault(place, 0);
            case 3 -> cellAbove(place, hourNow);
            default -> OUTSIDE;
        };
    }

    int dark(int place, int hour) {
        if (place < 0 || place > 11) {
            return UNKNOWN;
        }
        if (hour < 0 || hour > 5) {
            return OUTSIDE;
        }
        return isDark(place, hour, hanging) ? 1 : 0;
    }

    int read(int place) {
        if (place < 0 || place > 11) {
            return UNKNOWN;
        }
        StringBuilder seen = new StringBuilder();
        for (int on = 0; on < 6; on++) {
            int cell = place / 6 * 6 + (cellAbove(place, hourNow) + on) % 6;
            seen.append(hanging.contains(cell) ? '1' : '0');
        }
        return Integer.parseInt(seen.toString(), 2);
    }

    // ---- acts

    int hang(int cell) {
        if (cell < 0 || cell > 11) {
            return UNKNOWN;
        }
        if (hanging.contains(cell)) {
            return STATE;
        }
        if (hanging.size() == 5) {
            return FULL;
        }
        hanging.add(cell);
        act('h', cell, cell);
        return hanging.size();
    }

    int take(int cell) {
        if (cell < 0 || cell > 11) {
            return UNKNOWN;
        }
        if (!hanging.remove(cell)) {
            return STATE;
        }
        act('t', cell, cell);
        return hanging.size();
    }

    int move(int cell, int by) {
        if (cell < 0 || cell > 11) {
            return UNKNOWN;
        }
        if (by != 0 && by != 1 && by != -1) {
            return OUTSIDE;
        }
        if (!tryMove(hanging, cell, by)) {
            return STATE;
        }
        act('m', cell, neighbour(cell, by));
        return neighbour(cell, by);
    }

    int hour() {
        hourNow = hourNow == 5 ? 0 : hourNow + 1;
        act('o', 0, 0);
        return hourNow;
    }

    int undo() {
        if (acts.isEmpty()) {
            return STATE;
        }
        Act last = acts.removeLast();
        switch (last.kind) {
            case 'h' -> hanging.remove(last.to);
            case 't' -> hanging.add(last.from);
            case 'm' -> {
                hanging.remove(last.to);
                hanging.add(last.from);
            }
            default -> hourNow = hourNow == 0 ? 5 : hourNow - 1;
        }
        return acts.size();
    }

    int judge(int n, int row) {
        if (n < 1 || n > 2 || row < 0 || String.valueOf(row).length() > 3 * n) {
            return OUTSIDE;
        }
        String figures = String.format("%0" + 3 * n + "d", row);
        Set<Integer> tried = new TreeSet<>(hanging);
        for (int i = 0; i < n; i++) {
            int cell = Integer.parseInt(figures.substring(3 * i, 3 * i + 2));
            int how = figures.charAt(3 * i + 2) - '0';
            if (cell > 11 || how > 2 || !tryMove(tried, cell, new int[] {1, -1, 0}[how])) {
                return i;
            }
        }
        return NONE;
    }

    // ---- worths

    int worth(int bits) {
        return isHanging(bits) ? worthOf(set(bits)) : OUTSIDE;
    }

    int lawful(int bits) {
        if (!isHanging(bits)) {
            return OUTSIDE;
        }
        return isLawful(set(bits)) ? 1 : 0;
    }

    int best(int n, int what) {
        if (n < 0 || n > 5 || what < 0 || what > 2) {
            return OUTSIDE;
        }
        List<Set<Integer>> all = lawfulUpTo(n);
        if (all.isEmpty()) {
            return NONE;
        }
        Set<Integer> best = bestOf(all);
        return what == 0 ? worthOf(best) : what == 1 ? bits(best) : bits(grantedBy(best));
    }

    int many(int n) {
        if (n < 0 || n > 5) {
            return OUTSIDE;
        }
        int many = 0;
        for (Set<Integer> one : lawfulUpTo(n)) {
            many += one.size() == n ? 1 : 0;
        }
        return many;
    }

    int bars(int wish, int n) {
        if (wish < 0 || wish >= wishes.size()) {
            return UNKNOWN;
        }
        if (n < 0 || n > 5) {
            return OUTSIDE;
        }
        List<Integer> barred = new ArrayList<>();
        for (int other = 0; other < wishes.size(); other++) {
            boolean one = false;
            boolean two = false;
            boolean both = false;
            for (Set<Integer> lawful : lawfulUpTo(n)) {
                boolean first = isGranted(wishes.get(wish), lawful);
                boolean second = isGranted(wishes.get(other), lawful);
                one |= first;
                two |= second;
                both |= first && second;
            }
            if (other != wish && one && two && !both) {
                barred.add(other);
            }
        }
        return bits(barred);
    }

    int loss(int cell) {
        if (cell < 0 || cell > 11) {
            return UNKNOWN;
        }
        if (!hanging.contains(cell)) {
            return STATE;
        }
        Set<Integer> without = new TreeSet<>(hanging);
        without.remove(cell);
        return worthOf(hanging) - worthOf(without) + 1000;
    }

    int flow(int bits) {
        if (!isHanging(bits)) {
            return OUTSIDE;
        }
        if (set(bits).size() != hanging.size()) {
            return STATE;
        }
        Set<Set<Integer>> seen = new HashSet<>();
        List<Set<Integer>> edge = new ArrayList<>();
        edge.add(new TreeSet<>(hanging));
        seen.add(edge.get(0));
        for (int moves = 0; ; moves++) {
            List<Set<Integer>> next = new ArrayList<>();
            for (Set<Integer> one : edge) {
                if (one.equals(set(bits))) {
                    return moves;
                }
                for (int cell : one) {
                    for (int by = -1; by <= 1; by++) {
                        Set<Integer> moved = new TreeSet<>(one);
                        if (tryMove(moved, cell, by) && seen.add(moved)) {
                            next.add(moved);
                        }
                    }
                }
            }
            edge = next;
        }
    }

    // ---- prices

    int due(int wish, int n) {
        if (wish < 0 || wish >= wishes.size()) {
            return UNKNOWN;
        }
        if (n < 0 || n > 5) {
            return OUTSIDE;
        }
        List<Set<Integer>> all = lawfulUpTo(n);
        if (all.isEmpty()) {
            return NONE;
        }
        Set<Integer> best = bestOf(all);
        if (!grantedBy(best).contains(wish)) {
            return 0;
        }
        List<Integer> others = new ArrayList<>();
        for (int other = 0; other < wishes.size(); other++) {
            if (other != wish) {
                others.add(other);
            }
        }
        return mostWorth(all, others) - (worthOf(best) - wishes.get(wish).worth);
    }

    int share(int wish, int n, boolean upper) {
        if (wish < 0 || wish >= wishes.size()) {
            return UNKNOWN;
        }
        if (n < 0 || n > 5) {
            return OUTSIDE;
        }
        List<List<Integer>> orders = new ArrayList<>();
        orders(new ArrayList<>(), orders);
        List<Set<Integer>> all = lawfulUpTo(n);
        Map<Set<Integer>, Integer> known = new HashMap<>();
        long gained = 0;
        for (List<Integer> order : orders) {
            Set<Integer> before = new TreeSet<>(order.subList(0, order.indexOf(wish)));
            Set<Integer> then = new TreeSet<>(before);
            then.add(wish);
            gained += known.computeIfAbsent(then, come -> mostWorth(all, come))
                - known.computeIfAbsent(before, come -> mostWorth(all, come));
        }
        return fraction(gained, orders.size(), upper);
    }

    // ---- told, winds

    int tell(int place, int hour, boolean dark) {
        if (place < 0 || place > 11) {
            return UNKNOWN;
        }
        if (hour < 0 || hour > 5) {
            return OUTSIDE;
        }
        if (told.size() == 6) {
            return FULL;
        }
        told.add(new Told(place, hour, dark));
        return told.size();
    }

    int untell() {
        int size = told.size();
        told.clear();
        return size;
    }

    int fits(int n, int what) {
        if (n < 0 || n > 5 || what < 0 || what > 2) {
            return OUTSIDE;
        }
        int found = 0;
        Set<Integer> inAll = set(4095);
        Set<Integer> inNone = set(4095);
        for (Set<Integer> one : ALL_HANGINGS) {
            boolean fits = one.size() == n;
            for (Told what1 : told) {
                fits &= isDark(what1.place, what1.hour, one) == what1.dark;
            }
            if (fits) {
                found++;
                inAll.retainAll(one);
                inNone.removeAll(one);
            }
        }
        if (what == 0) {
            return found;
        }
        return found == 0 ? NONE : bits(what == 1 ? inAll : inNone);
    }

    int wind(int x, boolean upper) {
        if (x < 0 || x > 10) {
            return OUTSIDE;
        }
        long below = 1;
        for (int i = 0; i < hanging.size(); i++) {
            below *= 10;
        }
        return fraction(blown(new ArrayList<>(hanging), new TreeSet<>(), x), below, upper);
    }

    private long blown(List<Integer> open, Set<Integer> left, int x) {
        if (open.isEmpty()) {
            return worthOf(left);
        }
        List<Integer> rest = open.subList(1, open.size());
        Set<Integer> more = new TreeSet<>(left);
        more.add(open.get(0));
        return x * blown(rest, left, x) + (10 - x) * blown(rest, more, x);
    }

    long seed(long v) {
        long before = seedNow.longValue();
        seedNow = BigInteger.valueOf(v);
        return before;
    }

    int storm(int m) {
        if (m < 1 || m > 40) {
            return OUTSIDE;
        }
        BigInteger round = BigInteger.ONE.shiftLeft(64);
        Set<Integer> blown = new TreeSet<>(hanging);
        for (int i = 0; i < m; i++) {
            seedNow = seedNow.multiply(new BigInteger("6364136223846793005"))
                .add(new BigInteger("1442695040888963407")).mod(round);
            long upper = seedNow.shiftRight(33).longValue();
            tryMove(blown, (int) (upper % 12), new int[] {1, -1, 0}[(int) (upper / 12 % 3)]);
        }
        return bits(blown);
    }

    // ---- slots

    int keep(int slot) {
        if (slot < 0 || slot > 1) {
            return UNKNOWN;
        }
        slots[slot] = new Kept(new TreeSet<>(hanging), hourNow);
        return hanging.size();
    }

    int again(int slot) {
        if (slot < 0 || slot > 1) {
            return UNKNOWN;
        }
        if (slots[slot] == null) {
            return STATE;
        }
        hanging = new TreeSet<>(slots[slot].hanging);
        hourNow = slots[slot].hour;
        acts.clear();
        return hanging.size();
    }

    int count(int what) {
        return switch (what) {
            case 0 -> text.length();
            case 1 -> wishes.size();
            case 2 -> owed.size();
            case 3 -> hanging.size();
            case 4 -> hourNow;
            case 5 -> bits(hanging);
            case 6 -> acts.size();
            case 7 -> told.size();
            case 8 -> bits(grantedBy(hanging));
            default -> OUTSIDE;
        };
    }

    // ---- texts

    /** The parts of a text that is whole parts behind an N, and null of another. */
    private static List<String> partsOf(String text) {
        if (!text.startsWith("N")) {
            return null;
        }
        List<String> parts = new ArrayList<>();
        Matcher matcher = PART.matcher(text);
        int at = 1;
        while (at < text.length()) {
            if (!matcher.find(at) || matcher.start() != at) {
                return null;
            }
            parts.add(matcher.group());
            at = matcher.end();
        }
        return parts;
    }

    private static boolean isLetting(String text) {
        List<String> parts = partsOf(text);
        if (parts == null) {
            return false;
        }
        List<String> squares = new ArrayList<>();
        List<String> owed = new ArrayList<>();
        int wishes = 0;
        for (String part : parts) {
            switch (part.charAt(0)) {
                case 'H' -> squares.add(part);
                case 'W' -> wishes++;
                default -> owed.add(part.substring(0, 3));
            }
        }
        return squares.size() <= 5 && wishes <= 5 && owed.size() <= 4
            && new HashSet<>(squares).size() == squares.size() && new HashSet<>(owed).size() == owed.size();
    }

    /** Whether a text begins some letting: whole parts that do, and a part that goes on from what is behind them. */
    private static boolean canGoOn(String text) {
        if (isLetting(text)) {
            return true;
        }
        for (int rest = Math.max(1, text.length() - 6); rest < text.length(); rest++) {
            String whole = text.substring(0, rest);
            if (!isLetting(whole)) {
                continue;
            }
            String begun = text.substring(rest);
            for (String part : ALL_PARTS) {
                if (part.startsWith(begun) && isLetting(whole + part)) {
                    return true;
                }
            }
        }
        return false;
    }

    private static List<String> allParts() {
        List<String> parts = new ArrayList<>();
        for (int number = 0; number < 12; number++) {
            String two = number < 10 ? "0" + number : "" + number;
            parts.add("H" + two);
            for (int hours = 1; hours <= 6; hours++) {
                parts.add("O" + two + hours);
                for (int hour = 0; hour < 6; hour++) {
                    for (int worth = 1; worth <= 9; worth++) {
                        parts.add("W" + two + hour + hours + worth + "d");
                        parts.add("W" + two + hour + hours + worth + "l");
                    }
                }
            }
        }
        return parts;
    }

    // ---- the net

    private static int cellAbove(int place, int hour) {
        for (int cell = 0; cell < 12; cell++) {
            if (cell / 6 == place / 6 && (cell % 6 + hour) % 6 == place % 6) {
                return cell;
            }
        }
        throw new IllegalStateException("no cell is above " + place);
    }

    private static boolean isDark(int place, int hour, Set<Integer> cells) {
        return cells.contains(cellAbove(place, hour));
    }

    private static List<Integer> darkHours(int place, Set<Integer> cells) {
        List<Integer> hours = new ArrayList<>();
        for (int hour = 0; hour < 6; hour++) {
            if (isDark(place, hour, cells)) {
                hours.add(hour);
            }
        }
        return hours;
    }

    private static int neighbour(int cell, int by) {
        if (by == 0) {
            return cell < 6 ? cell + 6 : cell - 6;
        }
        int next = cell + by;
        return next / 6 == cell / 6 && next >= 0 ? next : cell - 5 * by;
    }

    private static boolean tryMove(Set<Integer> cells, int cell, int by) {
        int to = neighbour(cell, by);
        if (!cells.contains(cell) || cells.contains(to)) {
            return false;
        }
        cells.remove(cell);
        cells.add(to);
        return true;
    }

    private void act(char kind, int from, int to) {
        acts.addLast(new Act(kind, from, to));
        if (acts.size() > 16) {
            acts.removeFirst();
        }
    }

    // ---- worths

    private static boolean isGranted(Wish wish, Set<Integer> cells) {
        for (int hour : wish.hours()) {
            if (isDark(wish.place, hour, cells) != wish.dark) {
                return false;
            }
        }
        return true;
    }

    private Set<Integer> grantedBy(Set<Integer> cells) {
        Set<Integer> granted = new TreeSet<>();
        for (int wish = 0; wish < wishes.size(); wish++) {
            if (isGranted(wishes.get(wish), cells)) {
                granted.add(wish);
            }
        }
        return granted;
    }

    private int worthOf(Set<Integer> cells) {
        int worth = 0;
        for (int wish : grantedBy(cells)) {
            worth += wishes.get(wish).worth;
        }
        return worth;
    }

    private boolean isLawful(Set<Integer> cells) {
        for (Map.Entry<Integer, Integer> one : owed.entrySet()) {
            if (6 - darkHours(one.getKey(), cells).size() < one.getValue()) {
                return false;
            }
        }
        return true;
    }

    private List<Set<Integer>> lawfulUpTo(int n) {
        List<Set<Integer>> lawful = new ArrayList<>();
        for (Set<Integer> one : ALL_HANGINGS) {
            if (one.size() <= n && isLawful(one)) {
                lawful.add(one);
            }
        }
        return lawful;
    }

    private Set<Integer> bestOf(List<Set<Integer>> all) {
        return Collections.min(all, Comparator
            .comparingInt((Set<Integer> one) -> -worthOf(one))
            .thenComparingInt(one -> one.size())
            .thenComparingInt(one -> bits(one)));
    }

    private int mostWorth(List<Set<Integer>> all, java.util.Collection<Integer> counting) {
        int most = 0;
        for (Set<Integer> one : all) {
            int worth = 0;
            for (int wish : counting) {
                worth += isGranted(wishes.get(wish), one) ? wishes.get(wish).worth : 0;
            }
            most = Math.max(most, worth);
        }
        return most;
    }

    private void orders(List<Integer> begun, List<List<Integer>> into) {
        if (begun.size() == wishes.size()) {
            into.add(new ArrayList<>(begun));
            return;
        }
        for (int wish = 0; wish < wishes.size(); wish++) {
            if (!begun.contains(wish)) {
                begun.add(wish);
                orders(begun, into);
                begun.remove(begun.size() - 1);
            }
        }
    }

    private static int fraction(long above, long below, boolean upper) {
        long common = BigInteger.valueOf(above).gcd(BigInteger.valueOf(below)).longValue();
        return (int) ((upper ? above : below) / common);
    }

    // ---- bits

    private static int bits(Iterable<Integer> numbers) {
        int bits = 0;
        for (int number : numbers) {
            bits |= 1 << number;
        }
        return bits;
    }

    private static Set<Integer> set(int bits) {
        Set<Integer> numbers = new TreeSet<>();
        for (int number = 0; number < 12; number++) {
            if ((bits & 1 << number) != 0) {
                numbers.add(number);
            }
        }
        return numbers;
    }

    private static boolean isHanging(int bits) {
        return bits >= 0 && bits <= 4095 && set(bits).size() <= 5;
    }

    private static List<Set<Integer>> allHangings() {
        List<Set<Integer>> all = new ArrayList<>();
        for (int bits = 0; bits < 4096; bits++) {
            if (isHanging(bits)) {
                all.add(set(bits));
            }
        }
        return all;
    }
}
