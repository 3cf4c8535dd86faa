import java.lang.reflect.InvocationTargetException;
import java.lang.reflect.Method;
import java.util.Arrays;
import java.util.List;

/**
 * What no calls can show: that isSound tells an office that is not sound (promise 38), and the first day of a
 * certificate. So this test reaches into the state, by the names of the class's own private members; it goes with them,
 * and with the way the state is held.
 */
public final class InsideTest {
    public static void main(String[] args) throws ReflectiveOperationException {
        soundOnes();
        sailedWithoutAPerson();
        plannedWithoutAPerson();
        commonHours();
        commonHoursOfOthers();
        noCommonHours();
        dayDisagrees();
        weekDisagrees();
        firstDayOfOneThatIsGranted();
        firstDayOfOneThatIsRenewed();
        firstDayOfOneOfACourse();
        firstDayOfOneThatGrows();
        Check.end("InsideTest");
    }

    /** People with certificates, and four ships: the ship 0 has three posts. */
    private static Ferryroster with(int people) {
        Ferryroster x = new Ferryroster();
        Make.people(x, people);
        Make.withoutRules(x);
        Make.ship(x, 0, 1, 2);
        Make.ship(x, 0);
        Make.ship(x, 0);
        Make.ship(x, 0);
        return x;
    }

    private static Object call(Object on, String name, Object... arguments) throws ReflectiveOperationException {
        for (Method each : on.getClass().getDeclaredMethods()) {
            if (each.getName().equals(name)) {
                each.setAccessible(true);
                try {
                    return each.invoke(on, arguments);
                } catch (InvocationTargetException e) {
                    throw new AssertionError(name + Arrays.toString(arguments), e);
                }
            }
        }
        throw new NoSuchMethodException(name);
    }

    private static Object part(Ferryroster x, String list, int number) throws ReflectiveOperationException {
        var field = Ferryroster.class.getDeclaredField(list);
        field.setAccessible(true);
        return ((List<?>) field.get(x)).get(number);
    }

    private static void putOn(Ferryroster x, int sailing, int post, int person) throws ReflectiveOperationException {
        call(x, "putOn", part(x, "voyages", sailing), post, person);
    }

    private static void takeOff(Ferryroster x, int sailing, int post) throws ReflectiveOperationException {
        call(x, "takeOff", part(x, "voyages", sailing), post);
    }

    private static void soundOnes() {
        Ferryroster x = with(3);
        Check.yes("nothing", x.isSound());
        Make.sail(x, 0, 5, 3, 0, 1, 2);
        Make.sail(x, 1, 8, 3, 0);
        Make.sail(x, 2, 8, 3, 1);
        x.plan(3, 9, 2);
        Check.yes("all planned", x.isSound());
        x.pass(9);
        Check.yes("sailed and cancelled", x.isSound());
    }

    /** "each sailing that has sailed has a person on each post" */
    private static void sailedWithoutAPerson() throws ReflectiveOperationException {
        for (int post = 0; post < 3; post++) {
            Ferryroster x = with(4);
            Make.sail(x, 1, 4, 3, 3);
            Make.sail(x, 0, 5, 3, 0, 1, 2);
            x.pass(5);
            Check.due("sailed", x.stateOf(1), 's');
            takeOff(x, 1, post);
            Check.no("sailed without a person on " + post, x.isSound());
            putOn(x, 1, post, post);
            Check.yes("the person is back", x.isSound());
        }
        Ferryroster first = with(1);
        Make.sail(first, 1, 4, 3, 0);
        first.pass(4);
        takeOff(first, 0, 0);
        Check.no("the first one without its person", first.isSound());
    }

    private static void plannedWithoutAPerson() throws ReflectiveOperationException {
        Ferryroster x = with(3);
        Make.sail(x, 0, 5, 3, 0, 1, 2);
        takeOff(x, 0, 1);
        Check.yes("a planned one may lack a person", x.isSound());
    }

    /** Ten hours elsewhere, so that an hour that is worked twice is not the most. */
    private static Ferryroster withTwoSailings(int start, int between) {
        Ferryroster x = with(3);
        Make.sail(x, 1, 10, 10, 0);
        x.plan(2, 500, 2);
        for (int i = 0; i < between; i++) {
            x.plan(1, 600 + 2 * i, 1);
        }
        x.plan(3, start, 2);
        return x;
    }

    /** "nobody has posts of two sailings with a common hour": the last and the first hour, and sailings in between. */
    private static void commonHours() throws ReflectiveOperationException {
        for (int between = 0; between < 3; between++) {
            for (int start = 499; start < 502; start++) {
                Ferryroster x = withTwoSailings(start, between);
                putOn(x, 1, 0, 0);
                Check.yes("one of the two", x.isSound());
                putOn(x, 2 + between, 0, 0);
                Check.due("in a day", x.mostInDay(0), x.mostInDayByHours(0));
                Check.due("in a week", x.mostInWeek(0), x.mostInWeekByHours(0));
                Check.no("both, from 500 and from " + start, x.isSound());
            }
        }
    }

    /** The one who has two posts is on the last post of a sailing with others. */
    private static void commonHoursOfOthers() throws ReflectiveOperationException {
        for (int post = 0; post < 3; post++) {
            Ferryroster x = with(3);
            Make.sail(x, 1, 10, 10, 2);
            Make.sail(x, 0, 500, 2, 0, 1);
            x.plan(2, 500, 2);
            takeOff(x, 1, post % 2);
            putOn(x, 1, post, 2);
            putOn(x, 2, 0, 2);
            Check.no("on the post " + post, x.isSound());
            takeOff(x, 2, 0);
            Check.yes("not on the other sailing", x.isSound());
        }
    }

    private static void noCommonHours() throws ReflectiveOperationException {
        for (int start = 498; start < 503; start += 4) {
            Ferryroster x = withTwoSailings(start, 0);
            putOn(x, 1, 0, 0);
            putOn(x, 2, 0, 0);
            Check.yes("both, from 500 and from " + start, x.isSound());
        }
    }

    /** "the numbers of hours found in two ways agree": the hours of a day do not, those of the week do. */
    private static void dayDisagrees() throws ReflectiveOperationException {
        for (int number = 0; number < 3; number++) {
            Ferryroster x = with(3);
            Make.sail(x, 1, 100, 6, number);
            Make.sail(x, 1, 200, 6, number);
            Object person = part(x, "people", number);
            call(person, "removeWork", 100, 101);
            Check.no("an hour is lost", x.isSound());
            call(person, "addWork", 206, 207);
            Check.due("in a week", x.mostInWeek(number), x.mostInWeekByHours(number));
            Check.due("seven hours in a day", x.mostInDayByHours(number), 7);
            Check.due("six hours in a day", x.mostInDay(number), 6);
            Check.no("the day", x.isSound());
        }
    }

    private static void weekDisagrees() throws ReflectiveOperationException {
        for (int number = 0; number < 3; number++) {
            Ferryroster x = with(3);
            Make.sail(x, 1, 100, 6, number);
            Object person = part(x, "people", number);
            call(person, "addWork", 200, 201);
            Check.due("in a day", x.mostInDay(number), x.mostInDayByHours(number));
            Check.due("seven hours in a week", x.mostInWeekByHours(number), 7);
            Check.no("the week", x.isSound());
        }
    }

    /** The certificate of kind 1 of person 0 is valid on this day, but not on the day before. */
    private static void beginsOn(String what, Ferryroster x, int day) throws ReflectiveOperationException {
        Object person = part(x, "people", 0);
        Check.due(what + ": the day " + day, call(person, "isCertified", 1, day, day), true);
        Check.due(what + ": the day before", call(person, "isCertified", 1, day - 1, day), false);
    }

    /** "its first day is the present day" */
    private static void firstDayOfOneThatIsGranted() throws ReflectiveOperationException {
        for (int today = 0; today < 42; today += 41) {
            Ferryroster x = new Ferryroster();
            x.addPerson();
            Make.days(x, today);
            x.grant(0, 1, 1);
            beginsOn("granted", x, today);
            Check.due("the day after", call(part(x, "people", 0), "isCertified", 1, today, today + 1), false);
        }
        Ferryroster y = new Ferryroster();
        y.addPerson();
        y.grant(0, 1, 2);
        Make.days(y, 5);
        y.grant(0, 1, 2);
        beginsOn("granted in place of one that has ended", y, 5);
    }

    private static void firstDayOfOneThatIsRenewed() throws ReflectiveOperationException {
        Ferryroster x = new Ferryroster();
        x.addPerson();
        Make.days(x, 2);
        x.grant(0, 1, 3);
        Make.days(x, 2);
        x.renew(0, 1, 5);
        beginsOn("renewed", x, 2);
    }

    /** "whose first day is the next day": also in place of one that ended on the day before the course's last day */
    private static void firstDayOfOneOfACourse() throws ReflectiveOperationException {
        for (int before = 0; before < 2; before++) {
            Ferryroster x = new Ferryroster();
            x.addPerson();
            if (before == 1) {
                x.grant(0, 1, 4);
            }
            x.enroll(0, 1, 3, 2);
            Make.days(x, 6);
            beginsOn("by a course", x, 5);
            Check.due("its last day", x.lastDay(0, 1), 34);
        }
    }

    /** One that ends on the last day of the course grows, and begins when it began. */
    private static void firstDayOfOneThatGrows() throws ReflectiveOperationException {
        Ferryroster x = new Ferryroster();
        x.addPerson();
        Make.days(x, 1);
        x.grant(0, 1, 4);
        x.enroll(0, 1, 3, 2);
        Make.days(x, 5);
        beginsOn("grown by a course", x, 1);
        Check.due("its last day", x.lastDay(0, 1), 34);
    }
}
