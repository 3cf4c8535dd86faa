import java.util.ArrayList;
import java.util.List;

/**
 * Tells whether a call has changed anything: two offices are made by the same calls, one of them gets the call, too,
 * and both are asked for all that a caller can see. An office is used for 512 calls at most: so each kind of question
 * goes to a pair of its own, and leaves some hundred calls for the making.
 */
final class Twin {
    interface Making {
        void make(Ferryroster x);
    }

    interface Call {
        Object on(Ferryroster x);
    }

    private interface Look {
        void at(Ferryroster x, List<String> seen);
    }

    private static final Look[] LOOKS = {
        Twin::people, Twin::daysAway, Twin::sailings, Twin::reasons, Twin::whatComes, Twin::whatCanBeDone,
    };

    private Twin() {
    }

    /** The call throws this exception, and changes nothing. */
    static void refuses(String what, Class<?> want, Making making, Call call) {
        asks(what, want, making, call);
    }

    /** The call answers this, and changes nothing. */
    static void asks(String what, Object want, Making making, Call question) {
        answers(what, want, making, question);
        same(what + " changes nothing", making, x -> {
            making.make(x);
            answer(question, x);
        });
    }

    /** The call answers this; what it changes is not looked at. */
    static void answers(String what, Object want, Making making, Call call) {
        Ferryroster x = new Ferryroster();
        making.make(x);
        Check.due(what, answer(call, x), want);
    }

    /** Two ways of making offices come to the same. */
    static void same(String what, Making one, Making other) {
        for (Look look : LOOKS) {
            List<String> want = seen(look, one);
            List<String> got = seen(look, other);
            Check.due(what, firstOther(got, want), firstOther(want, got));
        }
    }

    private static String firstOther(List<String> list, List<String> others) {
        for (int i = 0; i < list.size(); i++) {
            if (i >= others.size() || !list.get(i).equals(others.get(i))) {
                return list.get(i);
            }
        }
        return "the same";
    }

    private static List<String> seen(Look look, Making making) {
        Ferryroster x = new Ferryroster();
        making.make(x);
        List<String> seen = new ArrayList<>();
        look.at(x, seen);
        return seen;
    }

    private static Object answer(Call call, Ferryroster x) {
        try {
            return call.on(x);
        } catch (RuntimeException e) {
            return Check.thrown(e);
        }
    }

    private static Object tell(List<String> seen, String what, Ferryroster x, Call call) {
        Object answer = answer(call, x);
        seen.add(what + " = " + answer);
        return answer;
    }

    /** Up to 103 calls. */
    private static void people(Ferryroster x, List<String> seen) {
        tell(seen, "now", x, y -> y.now());
        tell(seen, "mean work", x, y -> y.meanWork());
        tell(seen, "sound", x, y -> y.isSound());
        for (int each = 0; each < 8; each++) {
            int person = each;
            for (int kind = 0; kind < 4; kind++) {
                int of = kind;
                tell(seen, "last day of " + person + " " + of, x, y -> y.lastDay(person, of));
            }
            tell(seen, "most in a day of " + person, x, y -> y.mostInDay(person));
            tell(seen, "most in a day by hours of " + person, x, y -> y.mostInDayByHours(person));
            tell(seen, "most in a week of " + person, x, y -> y.mostInWeek(person));
            tell(seen, "most in a week by hours of " + person, x, y -> y.mostInWeekByHours(person));
            tell(seen, "work of " + person, x, y -> y.work(person, 0, 999));
            tell(seen, "share of " + person, x, y -> y.workShare(person));
            tell(seen, "next start of " + person, x, y -> y.nextStart(person, 1));
            tell(seen, "next long start of " + person, x, y -> y.nextStart(person, 12));
        }
    }

    /** Up to 336 calls. */
    private static void daysAway(Ferryroster x, List<String> seen) {
        for (int each = 0; each < 8; each++) {
            int person = each;
            for (int on = 0; on < 42; on++) {
                int day = on;
                Object answer = tell(seen, "away " + person + " on " + day, x, y -> y.isAway(person, day));
                if (answer instanceof Class) {
                    return;
                }
            }
        }
    }

    /** Up to 200 calls. */
    private static void sailings(Ferryroster x, List<String> seen) {
        tell(seen, "short sailings", x, y -> y.shortSailings());
        for (char each : new char[] {'p', 's', 'c'}) {
            tell(seen, "sailings " + each, x, y -> y.sailings(each));
        }
        for (int each = 0; each < 24; each++) {
            int sailing = each;
            if (tell(seen, "state of " + sailing, x, y -> y.stateOf(sailing)) instanceof Class) {
                return;
            }
            tell(seen, "complete " + sailing, x, y -> y.isComplete(sailing));
            for (int at = 0; at < 3; at++) {
                int post = at;
                tell(seen, "person on " + sailing + " " + post, x, y -> y.personOn(sailing, post));
                tell(seen, "fitting " + sailing + " " + post, x, y -> y.fitting(sailing, post));
            }
        }
    }

    /** Up to 300 calls. */
    private static void reasons(Ferryroster x, List<String> seen) {
        for (int each = 0; each < 24; each++) {
            for (int at = 0; at < 3; at++) {
                for (int who = 0; who < 8 && seen.size() < 300; who++) {
                    int sailing = each;
                    int post = at;
                    int person = who;
                    String what = "reason " + sailing + " " + post + " " + person;
                    if (tell(seen, what, x, y -> y.reason(sailing, post, person)) instanceof Class) {
                        break;
                    }
                }
            }
        }
    }

    /** Up to 302 calls. */
    private static void whatComes(Ferryroster x, List<String> seen) {
        for (int i = 0; i < 10; i++) {
            tell(seen, "two days", x, y -> y.pass(48));
            for (int each = 0; each < 24; each++) {
                int sailing = each;
                if (tell(seen, "state of " + sailing, x, y -> y.stateOf(sailing)) instanceof Class) {
                    break;
                }
            }
        }
        for (int each = 0; each < 8; each++) {
            int person = each;
            tell(seen, "number of sick days of " + person, x, y -> y.callSick(person, 20));
            for (int kind = 0; kind < 4; kind++) {
                int of = kind;
                tell(seen, "last day of " + person + " " + of, x, y -> y.lastDay(person, of));
            }
        }
    }

    /** Up to 130 calls. */
    private static void whatCanBeDone(Ferryroster x, List<String> seen) {
        tell(seen, "the day rule", x, y -> y.setDayRule(14));
        tell(seen, "the week rule", x, y -> y.setWeekRule(72));
        for (int each = 0; each < 8; each++) {
            int person = each;
            tell(seen, "recovery of " + person, x, y -> y.recover(person));
            tell(seen, "course of " + person, x, y -> y.leaveCourse(person));
            for (int kind = 0; kind < 4; kind++) {
                int of = kind;
                tell(seen, "grant to " + person + " " + of, x, y -> y.grant(person, of, 5));
            }
        }
        tell(seen, "relief", x, y -> y.relieveAll());
        for (int i = 0; i < 9; i++) {
            tell(seen, "another person", x, y -> y.addPerson());
        }
        for (int i = 0; i < 5; i++) {
            tell(seen, "another ship", x, y -> y.addShip(0));
        }
        for (int each = 0; each < 4; each++) {
            int ship = each;
            tell(seen, "another post of " + ship, x, y -> y.addPost(ship, 0));
            tell(seen, "another one of " + ship, x, y -> y.addPost(ship, 0));
        }
        int now = x.now();
        for (int i = 0; i < 25; i++) {
            int start = now + 40 + i;
            tell(seen, "a sailing from " + start, x, y -> y.plan(3, start, 1));
        }
    }
}
