import java.util.ArrayList;
import java.util.List;
import java.util.Random;
import java.util.TreeMap;
import java.util.TreeSet;

/** All calls, in long runs of seeded numbers, on a Ferryroster and on a Model; no office gets more than 512 calls. */
public final class ModelTest {
    private static final int RUNS = 400;
    private static final int CALLS = 512;

    private static final String[] EVENTS = {
        "pass", "pass", "setDayRule", "setWeekRule", "addPerson", "grant", "grant", "grant", "renew", "callSick",
        "callSick", "recover", "enroll", "enroll", "leaveCourse", "addShip", "addPost", "plan", "plan", "plan", "plan",
        "assign", "assign", "assign", "assign", "assign", "assign", "release", "cancel", "relieve", "relieve",
        "relieveAll", "relieveAll",
    };
    private static final String[] QUESTIONS = {
        "now", "lastDay", "isAway", "stateOf", "personOn", "isComplete", "reason", "reason", "reason", "fitting",
        "shortSailings", "sailings", "work", "mostInDay", "mostInDayByHours", "mostInWeek", "mostInWeekByHours",
        "nextStart", "workShare", "meanWork", "isSound",
    };

    /** The answers that were seen for each call, so that the runs are known to reach what they should. */
    private static final TreeMap<String, TreeSet<String>> SEEN = new TreeMap<>();

    private final Random random;
    private final Ferryroster office = new Ferryroster();
    private final Model model = new Model();
    // What the office has been called, so that another one can be made that is like it.
    private final List<Asked> history = new ArrayList<>();
    private final int run;
    // How closely in time the sailings of a run stand, and how fast its hours pass.
    private final int spread;
    private final int pace;

    private static final class Asked {
        final String call;
        final int[] args;

        Asked(String call, int... args) {
            this.call = call;
            this.args = args;
        }
    }

    private ModelTest(int run) {
        this.run = run;
        random = new Random(run);
        spread = new int[] {12, 40, 150, 990}[run % 4];
        pace = new int[] {2, 6, 24, 48}[run / 4 % 4];
    }

    public static void main(String[] args) {
        for (int run = 0; run < RUNS; run++) {
            new ModelTest(run).play();
        }
        checkReach();
        System.out.println("orders of relief other than that of the starts: " + Model.otherOrders
                + " for fewer cancelled sailings, " + Model.ordersByChanges + " for fewer changes");
        Check.end("ModelTest");
    }

    private void play() {
        prepare();
        int looks = 0;
        while (history.size() < CALLS) {
            String[] calls = random.nextInt(3) > 0 ? EVENTS : QUESTIONS;
            make(calls[random.nextInt(calls.length)]);
            if (history.size() >= 64 * (looks + 1) && history.size() < CALLS - 40) {
                looks++;
                compareAll();
            }
        }
    }

    private void prepare() {
        // Some runs play in the last days.
        for (int i = run % 8 == 7 ? 18 : 0; i > 0; i--) {
            compare("pass", 48);
        }
        for (int i = random.nextInt(9); i > 0; i--) {
            make("addPerson");
        }
        for (int i = random.nextInt(5); i > 0; i--) {
            make("addShip");
            make("addPost");
        }
        for (int i = 0; i < 20; i++) {
            make("grant");
        }
    }

    private int below(int bound) {
        return random.nextInt(bound);
    }

    private int person() {
        return below(40) == 0 ? wild() : below(Math.max(1, model.people.size()));
    }

    private int kind() {
        return below(40) == 0 ? wild() : below(1 + run % 4);
    }

    private int ship() {
        return below(40) == 0 ? wild() : below(Math.max(1, model.ships.size()));
    }

    private int sailing() {
        if (below(40) == 0) {
            return wild();
        }
        int number = below(Math.max(1, model.sailings.size()));
        // Those that are planned are asked for more often.
        for (int i = 0; i < 3 && number < model.sailings.size() && model.sailings.get(number).state != 'p'; i++) {
            number = below(model.sailings.size());
        }
        return number;
    }

    private int post(int sailing) {
        boolean known = sailing >= 0 && sailing < model.sailings.size();
        return below(40) == 0 || !known ? wild() : below(model.sailings.get(sailing).posts.length);
    }

    private int wild() {
        int[] numbers = {
            -1, -2, 3, 4, 8, 12, 13, 20, 21, 24, 25, 41, 42, 48, 49, 60, 61, 168, 169, 998, 999, 1000,
            Integer.MAX_VALUE, Integer.MIN_VALUE, Integer.MAX_VALUE - 1,
        };
        return numbers[below(numbers.length)];
    }

    private int days(int most) {
        return below(20) == 0 ? wild() : 1 + below(most);
    }

    private int[] argumentsOf(String call) {
        int sailing = sailing();
        switch (call) {
            case "pass":
                return new int[] {below(30) == 0 ? wild() : 1 + below(pace)};
            case "setDayRule":
                return new int[] {below(10) == 0 ? wild() : 4 + below(21)};
            case "setWeekRule":
                return new int[] {below(10) == 0 ? wild() : 10 + below(100)};
            case "grant":
            case "renew":
                return new int[] {person(), kind(), days(60)};
            case "lastDay":
                return new int[] {person(), kind()};
            case "callSick":
                return new int[] {person(), days(4)};
            case "recover":
            case "leaveCourse":
            case "mostInDay":
            case "mostInDayByHours":
            case "mostInWeek":
            case "mostInWeekByHours":
            case "workShare":
                return new int[] {person()};
            case "enroll":
                return new int[] {person(), kind(), below(20) == 0 ? wild() : model.hour / 24 + below(4), days(4)};
            case "isAway":
                return new int[] {person(), below(20) == 0 ? wild() : below(42)};
            case "addShip":
                return new int[] {kind()};
            case "addPost":
                return new int[] {ship(), kind()};
            case "plan":
                return new int[] {ship(), below(20) == 0 ? wild() : model.hour + below(spread), days(12)};
            case "assign":
            case "reason":
                return new int[] {sailing, post(sailing), person()};
            case "release":
            case "personOn":
            case "fitting":
                return new int[] {sailing, post(sailing)};
            case "cancel":
            case "relieve":
            case "stateOf":
            case "isComplete":
                return new int[] {sailing};
            case "sailings":
                return new int[] {"pscPx".charAt(below(5))};
            case "work":
                return new int[] {
                    person(), below(10) == 0 ? wild() : below(999), below(10) == 0 ? wild() : below(1001),
                };
            case "nextStart":
                return new int[] {person(), days(12)};
            default:
                return new int[0];
        }
    }

    private void make(String call) {
        int[] args = argumentsOf(call);
        // A run of many cancelled sailings would soon have no more to plan.
        if (call.equals("cancel") && below(3) > 0) {
            return;
        }
        compare(call, args);
    }

    private void compare(String call, int... args) {
        Asked asked = new Asked(call, args);
        history.add(asked);
        compareOn(office, asked);
    }

    private void compareOn(Ferryroster like, Asked asked) {
        String call = asked.call;
        int[] args = asked.args;
        Object want;
        try {
            want = askModel(call, args);
        } catch (RuntimeException e) {
            want = e.getClass();
        }
        Object got = answerOf(like, asked);
        StringBuilder text = new StringBuilder("run ").append(run).append(" at ").append(model.hour).append(": ");
        text.append(call);
        for (int each : args) {
            text.append(' ').append(each);
        }
        Check.due(text.toString(), got, want);
        String kind = want instanceof Class ? ((Class<?>) want).getSimpleName() : "answer";
        SEEN.computeIfAbsent(call, key -> new TreeSet<>()).add(kind);
        if (call.equals("reason") || call.equals("relieveAll") || call.equals("relieve")) {
            SEEN.get(call).add(String.valueOf(want));
        }
    }

    private static Object answerOf(Ferryroster office, Asked asked) {
        try {
            return askOffice(office, asked.call, asked.args);
        } catch (RuntimeException e) {
            return Check.thrown(e);
        }
    }

    /** The whole state, as far as questions show it, asked of offices that have been called the same. */
    private void compareAll() {
        Ferryroster like = null;
        int calls = CALLS;
        for (Asked question : questions()) {
            if (calls == CALLS) {
                like = new Ferryroster();
                for (Asked each : history) {
                    answerOf(like, each);
                }
                calls = history.size();
            }
            compareOn(like, question);
            calls++;
        }
    }

    private List<Asked> questions() {
        List<Asked> questions = new ArrayList<>();
        questions.add(new Asked("now"));
        questions.add(new Asked("shortSailings"));
        questions.add(new Asked("isSound"));
        for (int sailing = 0; sailing < model.sailings.size(); sailing++) {
            questions.add(new Asked("stateOf", sailing));
            for (int post = 0; post < model.sailings.get(sailing).posts.length; post++) {
                questions.add(new Asked("personOn", sailing, post));
                questions.add(new Asked("reason", sailing, post, person()));
            }
        }
        for (int person = 0; person < model.people.size(); person++) {
            for (int kind = 0; kind < 4; kind++) {
                questions.add(new Asked("lastDay", person, kind));
            }
            for (int day = 0; day < 42; day++) {
                questions.add(new Asked("isAway", person, day));
            }
            questions.add(new Asked("mostInDay", person));
            questions.add(new Asked("mostInWeekByHours", person));
            questions.add(new Asked("work", person, 0, 999));
        }
        return questions;
    }

    private static void checkReach() {
        Check.due("calls that were made", SEEN.size(), 37);
        String[] reached = {
            "assign IllegalArgumentException", "assign UnsupportedOperationException", "assign IllegalStateException",
            "assign NoSuchElementException", "assign IndexOutOfBoundsException",
            "relieve UnsupportedOperationException", "relieve 0", "relieve 1", "relieve 2", "relieve 3",
            "relieveAll 0", "relieveAll 1", "relieveAll 2", "relieveAll 3", "relieveAll 4", "reason 0", "reason 1",
            "reason 2", "reason 3", "reason 4", "reason 5", "reason 6", "renew answer", "renew IllegalStateException",
            "grant IllegalStateException", "leaveCourse answer", "recover answer", "recover IllegalStateException",
            "enroll IllegalStateException", "addPost IllegalStateException", "plan IllegalStateException",
            "pass IllegalStateException", "nextStart NoSuchElementException", "workShare ArithmeticException",
            "meanWork ArithmeticException",
        };
        for (String each : reached) {
            int space = each.indexOf(' ');
            TreeSet<String> answers = SEEN.getOrDefault(each.substring(0, space), new TreeSet<>());
            Check.yes("some run reaches " + each, answers.contains(each.substring(space + 1)));
        }
        Check.yes("some order of relief saves a sailing", Model.otherOrders > 0);
        Check.yes("some order of relief saves a change", Model.ordersByChanges > 0);
    }

    private Object askModel(String call, int[] a) {
        switch (call) {
            case "pass": return model.pass(a[0]);
            case "now": return model.hour;
            case "setDayRule": return model.setDayRule(a[0]);
            case "setWeekRule": return model.setWeekRule(a[0]);
            case "addPerson": return model.addPerson();
            case "grant": return model.grant(a[0], a[1], a[2]);
            case "renew": return model.renew(a[0], a[1], a[2]);
            case "lastDay": return model.lastDay(a[0], a[1]);
            case "callSick": return model.callSick(a[0], a[1]);
            case "recover": return model.recover(a[0]);
            case "enroll": return model.enroll(a[0], a[1], a[2], a[3]);
            case "leaveCourse": return model.leaveCourse(a[0]);
            case "isAway": return model.isAway(a[0], a[1]);
            case "addShip": return model.addShip(a[0]);
            case "addPost": return model.addPost(a[0], a[1]);
            case "plan": return model.plan(a[0], a[1], a[2]);
            case "assign": return model.assign(a[0], a[1], a[2]);
            case "release": return model.release(a[0], a[1]);
            case "cancel": return model.cancel(a[0]);
            case "relieve": return model.relieve(a[0]);
            case "relieveAll": return model.relieveAll();
            case "stateOf": return model.stateOf(a[0]);
            case "personOn": return model.personOn(a[0], a[1]);
            case "isComplete": return model.isComplete(a[0]);
            case "reason": return model.reason(a[0], a[1], a[2]);
            case "fitting": return model.fitting(a[0], a[1]);
            case "shortSailings": return model.shortSailings();
            case "sailings": return model.sailings((char) a[0]);
            case "work": return model.work(a[0], a[1], a[2]);
            case "mostInDay":
            case "mostInDayByHours": return model.most(a[0], 24);
            case "mostInWeek":
            case "mostInWeekByHours": return model.most(a[0], 168);
            case "nextStart": return model.nextStart(a[0], a[1]);
            case "workShare": return model.workShare(a[0]);
            case "meanWork": return model.meanWork();
            case "isSound": return true;
            default: throw new AssertionError(call);
        }
    }

    private static Object askOffice(Ferryroster office, String call, int[] a) {
        switch (call) {
            case "pass": return office.pass(a[0]);
            case "now": return office.now();
            case "setDayRule": return office.setDayRule(a[0]);
            case "setWeekRule": return office.setWeekRule(a[0]);
            case "addPerson": return office.addPerson();
            case "grant": return office.grant(a[0], a[1], a[2]);
            case "renew": return office.renew(a[0], a[1], a[2]);
            case "lastDay": return office.lastDay(a[0], a[1]);
            case "callSick": return office.callSick(a[0], a[1]);
            case "recover": return office.recover(a[0]);
            case "enroll": return office.enroll(a[0], a[1], a[2], a[3]);
            case "leaveCourse": return office.leaveCourse(a[0]);
            case "isAway": return office.isAway(a[0], a[1]);
            case "addShip": return office.addShip(a[0]);
            case "addPost": return office.addPost(a[0], a[1]);
            case "plan": return office.plan(a[0], a[1], a[2]);
            case "assign": return office.assign(a[0], a[1], a[2]);
            case "release": return office.release(a[0], a[1]);
            case "cancel": return office.cancel(a[0]);
            case "relieve": return office.relieve(a[0]);
            case "relieveAll": return office.relieveAll();
            case "stateOf": return office.stateOf(a[0]);
            case "personOn": return office.personOn(a[0], a[1]);
            case "isComplete": return office.isComplete(a[0]);
            case "reason": return office.reason(a[0], a[1], a[2]);
            case "fitting": return office.fitting(a[0], a[1]);
            case "shortSailings": return office.shortSailings();
            case "sailings": return office.sailings((char) a[0]);
            case "work": return office.work(a[0], a[1], a[2]);
            case "mostInDay": return office.mostInDay(a[0]);
            case "mostInDayByHours": return office.mostInDayByHours(a[0]);
            case "mostInWeek": return office.mostInWeek(a[0]);
            case "mostInWeekByHours": return office.mostInWeekByHours(a[0]);
            case "nextStart": return office.nextStart(a[0], a[1]);
            case "workShare": return office.workShare(a[0]);
            case "meanWork": return office.meanWork();
            case "isSound": return office.isSound();
            default: throw new AssertionError(call);
        }
    }
}
