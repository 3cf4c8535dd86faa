/** Each call with nothing there yet. */
public final class EmptyTest {
    private static final Twin.Making NOTHING = x -> { };
    private static final Twin.Making PEOPLE_ALONE = x -> Make.people(x, 2);
    private static final Twin.Making SHIPS_ALONE = x -> Make.ship(x, 0, 1);
    private static final Twin.Making NO_PEOPLE = x -> {
        Make.ship(x, 0, 1);
        x.plan(0, 5, 2);
    };
    private static final int[] NUMBERS = {-1, 0, 1, Integer.MIN_VALUE, Integer.MAX_VALUE};

    public static void main(String[] args) {
        timeAndRules();
        nobody();
        noShips();
        noSailings(NOTHING);
        noSailings(PEOPLE_ALONE);
        noSailings(SHIPS_ALONE);
        countsOfNothing(NOTHING);
        countsOfNothing(PEOPLE_ALONE);
        countsOfNothing(SHIPS_ALONE);
        aSailingWithoutPeople();
        theFirstOfEach();
        officesAreApart();
        Check.end("EmptyTest");
    }

    private static void timeAndRules() {
        Twin.asks("the hour", 0, NOTHING, x -> x.now());
        Twin.answers("the day rule at first", 14, NOTHING, x -> x.setDayRule(1));
        Twin.answers("the week rule at first", 72, NOTHING, x -> x.setWeekRule(1));
        Twin.answers("an hour", 0, NOTHING, x -> x.pass(1));
        Twin.answers("two days", 0, NOTHING, x -> x.pass(48));
        Twin.refuses("no hours", Check.ARGUMENT, NOTHING, x -> x.pass(0));
    }

    private static void nobody() {
        for (int person : NUMBERS) {
            String of = " of " + person + ", nobody there";
            Twin.refuses("grant" + of, Check.BOUNDS, NOTHING, x -> x.grant(person, 0, 1));
            Twin.refuses("renew" + of, Check.BOUNDS, NOTHING, x -> x.renew(person, 0, 1));
            Twin.refuses("lastDay" + of, Check.BOUNDS, NOTHING, x -> x.lastDay(person, 0));
            Twin.refuses("callSick" + of, Check.BOUNDS, NOTHING, x -> x.callSick(person, 1));
            Twin.refuses("recover" + of, Check.BOUNDS, NOTHING, x -> x.recover(person));
            Twin.refuses("enroll" + of, Check.BOUNDS, NOTHING, x -> x.enroll(person, 0, 1, 1));
            Twin.refuses("leaveCourse" + of, Check.BOUNDS, NOTHING, x -> x.leaveCourse(person));
            Twin.refuses("isAway" + of, Check.BOUNDS, NOTHING, x -> x.isAway(person, 0));
            Twin.refuses("work" + of, Check.BOUNDS, NOTHING, x -> x.work(person, 0, 1));
            Twin.refuses("mostInDay" + of, Check.BOUNDS, NOTHING, x -> x.mostInDay(person));
            Twin.refuses("mostInDayByHours" + of, Check.BOUNDS, NOTHING, x -> x.mostInDayByHours(person));
            Twin.refuses("mostInWeek" + of, Check.BOUNDS, NOTHING, x -> x.mostInWeek(person));
            Twin.refuses("mostInWeekByHours" + of, Check.BOUNDS, NOTHING, x -> x.mostInWeekByHours(person));
            Twin.refuses("nextStart" + of, Check.BOUNDS, NOTHING, x -> x.nextStart(person, 1));
            Twin.refuses("workShare" + of, Check.BOUNDS, NOTHING, x -> x.workShare(person));
        }
        Twin.refuses("the mean of nobody", Check.ARITHMETIC, NOTHING, x -> x.meanWork());
        Twin.refuses("the mean of nobody, with sailings", Check.ARITHMETIC, NO_PEOPLE, x -> x.meanWork());
    }

    private static void noShips() {
        for (int ship : NUMBERS) {
            Twin.refuses("addPost to " + ship, Check.BOUNDS, NOTHING, x -> x.addPost(ship, 0));
            Twin.refuses("plan of " + ship, Check.BOUNDS, NOTHING, x -> x.plan(ship, 1, 1));
            Twin.refuses("addPost to " + ship + " with people", Check.BOUNDS, PEOPLE_ALONE, x -> x.addPost(ship, 0));
            Twin.refuses("plan of " + ship + " with people", Check.BOUNDS, PEOPLE_ALONE, x -> x.plan(ship, 1, 1));
        }
    }

    private static void noSailings(Twin.Making making) {
        for (int sailing : NUMBERS) {
            String of = " of " + sailing + ", no sailings there";
            Twin.refuses("assign" + of, Check.MISSING, making, x -> x.assign(sailing, 0, 0));
            Twin.refuses("release" + of, Check.MISSING, making, x -> x.release(sailing, 0));
            Twin.refuses("cancel" + of, Check.MISSING, making, x -> x.cancel(sailing));
            Twin.refuses("relieve" + of, Check.MISSING, making, x -> x.relieve(sailing));
            Twin.refuses("stateOf" + of, Check.MISSING, making, x -> x.stateOf(sailing));
            Twin.refuses("personOn" + of, Check.MISSING, making, x -> x.personOn(sailing, 0));
            Twin.refuses("isComplete" + of, Check.MISSING, making, x -> x.isComplete(sailing));
            Twin.refuses("reason" + of, Check.MISSING, making, x -> x.reason(sailing, 0, 0));
            Twin.refuses("fitting" + of, Check.MISSING, making, x -> x.fitting(sailing, 0));
        }
    }

    private static void countsOfNothing(Twin.Making making) {
        Twin.asks("short sailings", 0, making, x -> x.shortSailings());
        Twin.asks("planned", 0, making, x -> x.sailings('p'));
        Twin.asks("sailed", 0, making, x -> x.sailings('s'));
        Twin.asks("cancelled", 0, making, x -> x.sailings('c'));
        Twin.asks("relief of nothing", 0, making, x -> x.relieveAll());
        Twin.asks("sound", true, making, x -> x.isSound());
    }

    private static void aSailingWithoutPeople() {
        Twin.asks("nobody fits", 0, NO_PEOPLE, x -> x.fitting(0, 0));
        Twin.asks("nobody on it", -1, NO_PEOPLE, x -> x.personOn(0, 0));
        Twin.asks("not complete", false, NO_PEOPLE, x -> x.isComplete(0));
        Twin.asks("short", 1, NO_PEOPLE, x -> x.shortSailings());
        Twin.asks("sound", true, NO_PEOPLE, x -> x.isSound());
        Twin.refuses("no person for a reason", Check.BOUNDS, NO_PEOPLE, x -> x.reason(0, 0, 0));
        Twin.refuses("no person to assign", Check.BOUNDS, NO_PEOPLE, x -> x.assign(0, 0, 0));
        Twin.refuses("NONE is no person", Check.BOUNDS, NO_PEOPLE, x -> x.assign(0, 0, Ferryroster.NONE));
        Twin.refuses("no person to release", Check.STATE, NO_PEOPLE, x -> x.release(0, 0));
        Twin.refuses("no way", Check.UNSUPPORTED, NO_PEOPLE, x -> x.relieve(0));
        Twin.answers("nobody had a post", 0, NO_PEOPLE, x -> x.cancel(0));
        Twin.answers("cancelled by the relief", 1, NO_PEOPLE, x -> x.relieveAll());
        Twin.answers("cancelled at its start", 1, NO_PEOPLE, x -> x.pass(5));
    }

    private static void theFirstOfEach() {
        Twin.answers("person", 0, NOTHING, x -> x.addPerson());
        Twin.answers("ship", 0, NOTHING, x -> x.addShip(0));
        Twin.answers("sailing", 0, SHIPS_ALONE, x -> x.plan(0, 1, 1));
        Twin.answers("post of a sailing", -1, NO_PEOPLE, x -> x.personOn(0, 0));
    }

    private static void officesAreApart() {
        Twin.same("what is done in one office is not seen in another", NOTHING, x -> {
            Ferryroster other = new Ferryroster();
            Make.people(other, 3);
            Make.ship(other, 0);
            Make.sail(other, 0, 5, 3, 2);
            other.callSick(1, 3);
            other.setDayRule(3);
            other.pass(4);
        });
    }
}
