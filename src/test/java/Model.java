import java.util.ArrayList;
import java.util.List;
import java.util.NoSuchElementException;
import java.util.TreeMap;
import java.util.TreeSet;

/**
 * A second office, written from the document alone, as literally and with as little regard for speed as possible.
 * ModelTest compares it with Ferryroster, so it shares no code and no way of counting with it.
 */
final class Model {
    static final class Person {
        final TreeMap<Integer, int[]> certificates = new TreeMap<>();
        final TreeSet<Integer> sick = new TreeSet<>();
        final TreeSet<Integer> onCourse = new TreeSet<>();
        int[] course = null;
    }

    static final class Sailing {
        int ship;
        int start;
        int length;
        char state = 'p';
        Integer[] posts;

        boolean hasHour(int hour) {
            return hour >= start && hour < start + length;
        }

        boolean has(int person) {
            for (Integer each : posts) {
                if (each != null && each == person) {
                    return true;
                }
            }
            return false;
        }

        TreeSet<Integer> days() {
            TreeSet<Integer> days = new TreeSet<>();
            for (int hour = start; hour < start + length; hour++) {
                days.add(hour / 24);
            }
            return days;
        }

        Sailing copy() {
            Sailing copy = new Sailing();
            copy.ship = ship;
            copy.start = start;
            copy.length = length;
            copy.state = state;
            copy.posts = posts.clone();
            return copy;
        }
    }

    /** How often the order of relief was another one than that of the starts, for the test's own soundness. */
    static int otherOrders = 0;
    static int ordersByChanges = 0;

    int hour = 0;
    int dayRule = 14;
    int weekRule = 72;
    List<Person> people = new ArrayList<>();
    List<List<Integer>> ships = new ArrayList<>();
    List<Sailing> sailings = new ArrayList<>();

    private static void argument(boolean good) {
        if (!good) {
            throw new IllegalArgumentException();
        }
    }

    private static void state(boolean good) {
        if (!good) {
            throw new IllegalStateException();
        }
    }

    private static void bounds(boolean good) {
        if (!good) {
            throw new IndexOutOfBoundsException();
        }
    }

    private static void exists(boolean good) {
        if (!good) {
            throw new NoSuchElementException();
        }
    }

    private static boolean in(int number, int from, int to) {
        return from <= number && number <= to;
    }

    private Person person(int person) {
        bounds(in(person, 0, people.size() - 1));
        return people.get(person);
    }

    private Sailing sailing(int sailing) {
        exists(in(sailing, 0, sailings.size() - 1));
        return sailings.get(sailing);
    }

    private int day() {
        return hour / 24;
    }

    // ---- time and rules

    int pass(int hours) {
        argument(in(hours, 1, 48));
        state(hour + hours <= 999);
        int cancelled = 0;
        while (hours-- > 0) {
            hour++;
            if (hour % 24 == 0) {
                for (Person each : people) {
                    endCourse(each, hour / 24 - 1);
                }
            }
            for (int number = 0; number < sailings.size(); number++) {
                Sailing each = sailings.get(number);
                if (each.state == 'p' && each.start == hour) {
                    if (complete(each)) {
                        each.state = 's';
                    } else {
                        cancelSailing(each);
                        cancelled++;
                    }
                }
            }
        }
        return cancelled;
    }

    private static void endCourse(Person person, int day) {
        if (person.course == null || person.course[2] != day) {
            return;
        }
        int kind = person.course[0];
        person.course = null;
        int[] old = person.certificates.get(kind);
        if (old != null && old[1] >= day) {
            old[1] += 30;
        } else {
            person.certificates.put(kind, new int[] {day + 1, day + 1 + 29});
        }
    }

    int setDayRule(int hours) {
        argument(in(hours, 1, 24));
        int old = dayRule;
        dayRule = hours;
        return old;
    }

    int setWeekRule(int hours) {
        argument(in(hours, 1, 168));
        int old = weekRule;
        weekRule = hours;
        return old;
    }

    // ---- people

    int addPerson() {
        state(people.size() < 8);
        people.add(new Person());
        return people.size() - 1;
    }

    int grant(int number, int kind, int days) {
        Person person = person(number);
        argument(in(kind, 0, 3) && in(days, 1, 60));
        int[] old = person.certificates.get(kind);
        state(old == null || old[1] < day());
        person.certificates.put(kind, new int[] {day(), day() + days - 1});
        return day() + days - 1;
    }

    int renew(int number, int kind, int days) {
        Person person = person(number);
        argument(in(kind, 0, 3) && in(days, 1, 60));
        int[] old = person.certificates.get(kind);
        exists(old != null);
        state(in(day(), old[1] - 9, old[1]));
        old[1] += days;
        return old[1];
    }

    int lastDay(int number, int kind) {
        Person person = person(number);
        argument(in(kind, 0, 3));
        exists(person.certificates.containsKey(kind));
        return person.certificates.get(kind)[1];
    }

    int callSick(int number, int days) {
        Person person = person(number);
        argument(in(days, 1, 20));
        TreeSet<Integer> these = new TreeSet<>();
        for (int day = day(); day < day() + days; day++) {
            if (day <= 41) {
                these.add(day);
            }
        }
        person.sick.addAll(these);
        int count = 0;
        for (Sailing each : sailings) {
            TreeSet<Integer> both = each.days();
            both.retainAll(these);
            if (each.state == 'p' && each.has(number) && !both.isEmpty()) {
                count++;
            }
        }
        return count;
    }

    int recover(int number) {
        Person person = person(number);
        int count = person.sick.tailSet(day()).size();
        state(count > 0);
        person.sick.tailSet(day()).clear();
        return count;
    }

    int enroll(int number, int kind, int first, int days) {
        Person person = person(number);
        argument(in(kind, 0, 3) && in(first, day() + 1, 41) && in(days, 1, 10) && first + days - 1 <= 41);
        state(person.course == null);
        person.course = new int[] {kind, first, first + days - 1};
        for (int day = first; day < first + days; day++) {
            person.onCourse.add(day);
        }
        return first + days - 1;
    }

    int leaveCourse(int number) {
        Person person = person(number);
        state(person.course != null);
        int count = 0;
        for (int day = person.course[1]; day <= person.course[2]; day++) {
            if (day >= day()) {
                person.onCourse.remove(day);
                count++;
            }
        }
        person.course = null;
        return count;
    }

    boolean isAway(int number, int day) {
        Person person = person(number);
        argument(in(day, 0, 41));
        return person.sick.contains(day) || person.onCourse.contains(day);
    }

    // ---- ships and sailings

    int addShip(int kind) {
        argument(in(kind, 0, 3));
        state(ships.size() < 4);
        ships.add(new ArrayList<>(List.of(kind)));
        return ships.size() - 1;
    }

    int addPost(int ship, int kind) {
        bounds(in(ship, 0, ships.size() - 1));
        argument(in(kind, 0, 3));
        state(ships.get(ship).size() < 3);
        for (Sailing each : sailings) {
            state(each.ship != ship);
        }
        ships.get(ship).add(kind);
        return ships.get(ship).size();
    }

    int plan(int ship, int start, int hours) {
        bounds(in(ship, 0, ships.size() - 1));
        argument(start > hour && in(hours, 1, 12) && (long) start + hours <= 999);
        Sailing sailing = new Sailing();
        sailing.ship = ship;
        sailing.start = start;
        sailing.length = hours;
        sailing.posts = new Integer[ships.get(ship).size()];
        for (Sailing each : sailings) {
            for (int at = start; at < start + hours; at++) {
                state(each.ship != ship || each.state == 'c' || !each.hasHour(at));
            }
        }
        state(sailings.size() < 24);
        sailings.add(sailing);
        return sailings.size() - 1;
    }

    int assign(int number, int post, int person) {
        Sailing sailing = sailing(number);
        bounds(in(post, 0, sailing.posts.length - 1) && in(person, 0, people.size() - 1));
        state(sailing.state == 'p');
        argument(!sailing.has(person));
        if (why(sailing, post, person) != 0) {
            throw new UnsupportedOperationException();
        }
        Integer old = sailing.posts[post];
        sailing.posts[post] = person;
        return old == null ? -1 : old;
    }

    int release(int number, int post) {
        Sailing sailing = sailing(number);
        bounds(in(post, 0, sailing.posts.length - 1));
        state(sailing.state == 'p' && sailing.posts[post] != null);
        int old = sailing.posts[post];
        sailing.posts[post] = null;
        return old;
    }

    int cancel(int number) {
        Sailing sailing = sailing(number);
        state(sailing.state == 'p');
        int count = 0;
        for (Integer each : sailing.posts) {
            count += each == null ? 0 : 1;
        }
        cancelSailing(sailing);
        return count;
    }

    private static void cancelSailing(Sailing sailing) {
        sailing.state = 'c';
        sailing.posts = new Integer[sailing.posts.length];
    }

    int relieve(int number) {
        Sailing sailing = sailing(number);
        state(sailing.state == 'p');
        Integer[] way = bestWay(sailing);
        if (way == null) {
            throw new UnsupportedOperationException();
        }
        int changes = changes(sailing, way);
        sailing.posts = way;
        return changes;
    }

    private static int changes(Sailing sailing, Integer[] way) {
        int changes = 0;
        for (int post = 0; post < way.length; post++) {
            changes += way[post].equals(sailing.posts[post]) ? 0 : 1;
        }
        return changes;
    }

    /** All ways are made, with the posts as the digits of a number, and compared. */
    private Integer[] bestWay(Sailing sailing) {
        boolean[][] fit = new boolean[sailing.posts.length][people.size()];
        for (int post = 0; post < fit.length; post++) {
            for (int person = 0; person < people.size(); person++) {
                fit[post][person] = why(sailing, post, person) == 0;
            }
        }
        Integer[] best = null;
        int ways = (int) Math.round(Math.pow(people.size(), sailing.posts.length));
        for (int code = 0; code < ways; code++) {
            Integer[] way = new Integer[sailing.posts.length];
            int rest = code;
            boolean good = true;
            TreeSet<Integer> used = new TreeSet<>();
            for (int post = way.length - 1; post >= 0; post--) {
                way[post] = rest % people.size();
                rest /= people.size();
                good &= used.add(way[post]) && fit[post][way[post]];
            }
            if (good && (best == null || changes(sailing, way) < changes(sailing, best))) {
                best = way;
            }
        }
        return best;
    }

    int relieveAll() {
        List<Integer> looked = new ArrayList<>();
        for (int start = 0; start <= 999; start++) {
            for (int number = 0; number < sailings.size(); number++) {
                Sailing each = sailings.get(number);
                if (each.start == start && each.state == 'p' && !complete(each) && looked.size() < 4) {
                    looked.add(number);
                }
            }
        }
        List<List<Integer>> orders = new ArrayList<>();
        addOrders(orders, new ArrayList<>(), looked);
        List<Sailing> before = sailings;
        List<Sailing> best = null;
        int[] bestCost = null;
        int[] firstCost = null;
        for (List<Integer> order : orders) {
            sailings = new ArrayList<>();
            for (Sailing each : before) {
                sailings.add(each.copy());
            }
            int[] cost = follow(order);
            firstCost = firstCost == null ? cost : firstCost;
            if (best == null || cost[0] < bestCost[0] || (cost[0] == bestCost[0] && cost[1] < bestCost[1])) {
                best = sailings;
                bestCost = cost;
            }
        }
        sailings = best;
        otherOrders += bestCost[0] < firstCost[0] ? 1 : 0;
        ordersByChanges += bestCost[0] == firstCost[0] && bestCost[1] < firstCost[1] ? 1 : 0;
        return bestCost[0];
    }

    private int[] follow(List<Integer> order) {
        int[] cost = {0, 0};
        for (int number : order) {
            Sailing sailing = sailings.get(number);
            Integer[] way = bestWay(sailing);
            if (way == null) {
                cancelSailing(sailing);
                cost[0]++;
            } else {
                cost[1] += changes(sailing, way);
                sailing.posts = way;
            }
        }
        return cost;
    }

    private static void addOrders(List<List<Integer>> orders, List<Integer> begun, List<Integer> all) {
        if (begun.size() == all.size()) {
            orders.add(new ArrayList<>(begun));
            return;
        }
        for (Integer each : all) {
            if (!begun.contains(each)) {
                begun.add(each);
                addOrders(orders, begun, all);
                begun.remove(begun.size() - 1);
            }
        }
    }

    char stateOf(int number) {
        return sailing(number).state;
    }

    int personOn(int number, int post) {
        Sailing sailing = sailing(number);
        bounds(in(post, 0, sailing.posts.length - 1));
        return sailing.posts[post] == null ? -1 : sailing.posts[post];
    }

    boolean isComplete(int number) {
        Sailing sailing = sailing(number);
        state(sailing.state == 'p');
        return complete(sailing);
    }

    private boolean complete(Sailing sailing) {
        for (int post = 0; post < sailing.posts.length; post++) {
            if (sailing.posts[post] == null || why(sailing, post, sailing.posts[post]) != 0) {
                return false;
            }
        }
        return true;
    }

    int reason(int number, int post, int person) {
        Sailing sailing = sailing(number);
        bounds(in(post, 0, sailing.posts.length - 1) && in(person, 0, people.size() - 1));
        state(sailing.state == 'p');
        return why(sailing, post, person);
    }

    private int why(Sailing sailing, int post, int number) {
        Person person = people.get(number);
        int[] certificate = person.certificates.get(ships.get(sailing.ship).get(post));
        for (int day : sailing.days()) {
            if (certificate == null || day < certificate[0] || day > certificate[1]) {
                return 1;
            }
        }
        for (int day : sailing.days()) {
            if (person.sick.contains(day)) {
                return 2;
            }
        }
        for (int day : sailing.days()) {
            if (person.onCourse.contains(day)) {
                return 3;
            }
        }
        return whyOfWork(worked(number, sailing), sailing.start, sailing.length);
    }

    /** Which of the hours 0 to 999 a person works, when the posts of one sailing are open. */
    private boolean[] worked(int person, Sailing open) {
        boolean[] worked = new boolean[1000];
        for (Sailing each : sailings) {
            if (each != open && each.has(person)) {
                for (int hour = each.start; hour < each.start + each.length; hour++) {
                    worked[hour] = true;
                }
            }
        }
        return worked;
    }

    private int whyOfWork(boolean[] worked, int start, int length) {
        for (int hour = start; hour < start + length; hour++) {
            if (worked[hour]) {
                return 4;
            }
        }
        boolean[] would = worked.clone();
        for (int hour = start; hour < start + length; hour++) {
            would[hour] = true;
        }
        int[] sums = sums(would);
        for (int hour = start; hour < start + length; hour++) {
            for (int from = hour - 23; from <= hour; from++) {
                if (inRow(sums, from, from + 24) > dayRule) {
                    return 5;
                }
            }
        }
        for (int hour = start; hour < start + length; hour++) {
            for (int from = hour - 167; from <= hour; from++) {
                if (inRow(sums, from, from + 168) > weekRule) {
                    return 6;
                }
            }
        }
        return 0;
    }

    private static int[] sums(boolean[] worked) {
        int[] sums = new int[1001];
        for (int hour = 0; hour < 1000; hour++) {
            sums[hour + 1] = sums[hour] + (worked[hour] ? 1 : 0);
        }
        return sums;
    }

    private static int inRow(int[] sums, int from, int to) {
        return sums[Math.min(1000, to)] - sums[Math.max(0, from)];
    }

    int fitting(int number, int post) {
        Sailing sailing = sailing(number);
        bounds(in(post, 0, sailing.posts.length - 1));
        state(sailing.state == 'p');
        int count = 0;
        for (int person = 0; person < people.size(); person++) {
            count += why(sailing, post, person) == 0 ? 1 : 0;
        }
        return count;
    }

    int shortSailings() {
        int count = 0;
        for (Sailing each : sailings) {
            count += each.state == 'p' && !complete(each) ? 1 : 0;
        }
        return count;
    }

    int sailings(char state) {
        argument(state == 'p' || state == 's' || state == 'c');
        int count = 0;
        for (Sailing each : sailings) {
            count += each.state == state ? 1 : 0;
        }
        return count;
    }

    // ---- work and rest

    int work(int number, int from, int to) {
        person(number);
        argument(in(from, 0, 998) && from < to && to <= 999);
        return inRow(sums(worked(number, null)), from, to);
    }

    int most(int number, int length) {
        person(number);
        int[] sums = sums(worked(number, null));
        int most = 0;
        for (int from = -length; from < 1000; from++) {
            most = Math.max(most, inRow(sums, from, Math.max(0, from + length)));
        }
        return most;
    }

    int nextStart(int number, int hours) {
        person(number);
        argument(in(hours, 1, 12));
        boolean[] worked = worked(number, null);
        for (int start = hour + 1; start <= 999 - hours; start++) {
            if (whyOfWork(worked, start, hours) == 0) {
                return start;
            }
        }
        throw new NoSuchElementException();
    }

    float workShare(int number) {
        person(number);
        if (hour == 0) {
            throw new ArithmeticException();
        }
        return (float) inRow(sums(worked(number, null)), 0, hour) / (float) hour;
    }

    double meanWork() {
        if (people.isEmpty()) {
            throw new ArithmeticException();
        }
        int sum = 0;
        for (int person = 0; person < people.size(); person++) {
            sum += inRow(sums(worked(person, null)), 0, 1000);
        }
        return (double) sum / (double) people.size();
    }
}
