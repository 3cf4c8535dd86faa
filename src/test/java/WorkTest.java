/** Promises 30 to 38: work and rest. */
public final class WorkTest {
    public static void main(String[] args) {
        work();
        most();
        mostIsRefused();
        nextStart();
        nextStartWithRules();
        nextStartIsRefused();
        workShare();
        meanWork();
        isSound();
        Check.end("WorkTest");
    }

    private static Ferryroster with(int people) {
        Ferryroster x = new Ferryroster();
        for (int person = 0; person < people; person++) {
            x.addPerson();
            x.grant(person, 0, 60);
        }
        x.addShip(0);
        x.addShip(0);
        x.setDayRule(24);
        x.setWeekRule(168);
        return x;
    }

    /** Plans a sailing of the ship 0 or 1 and puts the person on it. */
    private static int sail(Ferryroster x, int ship, int start, int hours, int person) {
        int sailing = x.plan(ship, start, hours);
        x.assign(sailing, 0, person);
        return sailing;
    }

    private static void work() {
        Ferryroster x = with(2);
        Check.due("no work", x.work(0, 0, 999), 0);
        int first = sail(x, 0, 10, 5, 0);
        sail(x, 0, 15, 3, 0);
        sail(x, 1, 20, 2, 1);
        sail(x, 0, 990, 9, 0);
        Check.due("all", x.work(0, 0, 999), 17);
        Check.due("of the other person", x.work(1, 0, 999), 2);
        Check.due("the hour before", x.work(0, 9, 10), 0);
        Check.due("the first hour", x.work(0, 10, 11), 1);
        Check.due("the last hour", x.work(0, 17, 18), 1);
        Check.due("the hour after", x.work(0, 18, 19), 0);
        Check.due("parts of two", x.work(0, 12, 16), 4);
        Check.due("the last of all hours", x.work(0, 998, 999), 1);
        Check.due("the first of all hours", x.work(0, 0, 1), 0);
        x.pass(12);
        Check.due("those that have sailed count", x.work(0, 0, 999), 17);
        x.release(1, 0);
        Check.due("those released do not", x.work(0, 0, 999), 14);
        Check.due("sailed", x.stateOf(first), 's');
        Check.fails("from -1", Check.ARGUMENT, () -> x.work(0, -1, 5));
        Check.fails("up to itself", Check.ARGUMENT, () -> x.work(0, 5, 5));
        Check.fails("backwards", Check.ARGUMENT, () -> x.work(0, 6, 5));
        Check.fails("up to 1000", Check.ARGUMENT, () -> x.work(0, 5, 1000));
        Check.fails("from 999", Check.ARGUMENT, () -> x.work(0, 999, 1000));
        Check.fails("no person comes first", Check.BOUNDS, () -> x.work(2, 5, 5));
        for (int wild : Check.WILD) {
            Check.fails("person " + wild, Check.BOUNDS, () -> x.work(wild, 0, 1));
            Check.fails("from " + wild, Check.ARGUMENT, () -> x.work(0, wild, 10));
            Check.fails("to " + wild, Check.ARGUMENT, () -> x.work(0, 0, wild));
        }
    }

    private static void most(Ferryroster x, String when, int day, int week) {
        Check.due("in a day, " + when, x.mostInDay(0), day);
        Check.due("in a day by hours, " + when, x.mostInDayByHours(0), day);
        Check.due("in a week, " + when, x.mostInWeek(0), week);
        Check.due("in a week by hours, " + when, x.mostInWeekByHours(0), week);
    }

    private static void most() {
        Ferryroster x = with(2);
        most(x, "without work", 0, 0);
        sail(x, 0, 100, 12, 0);
        most(x, "with one", 12, 12);
        sail(x, 0, 120, 10, 0);
        most(x, "with two, the first of them whole", 16, 22);
        sail(x, 1, 90, 2, 0);
        most(x, "with a third one, outside of it", 16, 24);
        sail(x, 1, 86, 3, 1);
        most(x, "not that of another person", 16, 24);
        sail(x, 0, 262, 6, 0);
        most(x, "with a fourth one, partly in the week", 16, 28);
        sail(x, 0, 400, 12, 0);
        sail(x, 1, 412, 12, 0);
        most(x, "a day without rest", 24, 30);
        sail(x, 0, 424, 12, 0);
        most(x, "longer than a day", 24, 36);
        x.release(x.sailings('p') - 1, 0);
        most(x, "with the last one released", 24, 30);

        Ferryroster y = with(1);
        sail(y, 0, 1, 3, 0);
        sail(y, 0, 990, 9, 0);
        most(y, "at the first and the last hours", 9, 9);
        y.pass(1);
        y.cancel(1);
        most(y, "what has sailed", 3, 3);

        // The most work is found only in hours that stop at an end: what begins there counts in part.
        Ferryroster z = with(1);
        sail(z, 0, 50, 10, 0);
        sail(z, 0, 70, 5, 0);
        most(z, "from 51 to 75", 14, 15);
    }

    private static void mostIsRefused() {
        Ferryroster x = with(1);
        int[] persons = {-1, 1, 8, Integer.MIN_VALUE, Integer.MAX_VALUE};
        for (int person : persons) {
            Check.fails("day of " + person, Check.BOUNDS, () -> x.mostInDay(person));
            Check.fails("day by hours of " + person, Check.BOUNDS, () -> x.mostInDayByHours(person));
            Check.fails("week of " + person, Check.BOUNDS, () -> x.mostInWeek(person));
            Check.fails("week by hours of " + person, Check.BOUNDS, () -> x.mostInWeekByHours(person));
        }
    }

    private static void nextStart() {
        Ferryroster x = with(1);
        Check.due("the next hour", x.nextStart(0, 12), 1);
        x.pass(10);
        Check.due("later than the present one", x.nextStart(0, 1), 11);
        sail(x, 0, 12, 4, 0);
        Check.due("one hour before the sailing", x.nextStart(0, 1), 11);
        Check.due("two hours after it", x.nextStart(0, 2), 16);
        sail(x, 0, 18, 4, 0);
        Check.due("two hours between the two", x.nextStart(0, 2), 16);
        Check.due("three hours after both", x.nextStart(0, 3), 22);
        x.callSick(0, 20);
        x.enroll(0, 0, 20, 5);
        Check.due("sickness and courses do not matter", x.nextStart(0, 3), 22);
        Ferryroster y = new Ferryroster();
        y.addPerson();
        Check.due("certificates do not matter", y.nextStart(0, 3), 1);
        for (int i = 0; i < 20; i++) {
            y.pass(48);
        }
        y.pass(26);
        Check.due("up to 999", y.nextStart(0, 12), 987);
        y.pass(1);
        Check.fails("beyond 999", Check.MISSING, () -> y.nextStart(0, 12));
        Check.due("a shorter one", y.nextStart(0, 11), 988);
        y.pass(11);
        Check.fails("no hour but 999", Check.MISSING, () -> y.nextStart(0, 1));
    }

    private static void nextStartWithRules() {
        Ferryroster x = with(1);
        sail(x, 0, 100, 10, 0);
        x.pass(48);
        x.pass(40);
        x.setDayRule(14);
        Check.due("4 hours, still before", x.nextStart(0, 4), 89);
        Check.due("5 hours, when only 9 of the 10 are in a row with them", x.nextStart(0, 5), 120);
        x.setDayRule(24);
        x.setWeekRule(15);
        Check.due("a row of 168 hours with 10 and 5", x.nextStart(0, 5), 89);
        Check.due("a row of 168 hours with 10 and 6", x.nextStart(0, 6), 263);
        x.setWeekRule(11);
        Check.fails("12 hours are more than the rule", Check.MISSING, () -> x.nextStart(0, 12));
        x.setWeekRule(168);
        x.setDayRule(11);
        Check.fails("12 hours are more than the day rule", Check.MISSING, () -> x.nextStart(0, 12));
        Check.due("the sailing that would be first", x.nextStart(0, 1), 89);
    }

    private static void nextStartIsRefused() {
        Ferryroster x = with(1);
        x.setDayRule(1);
        Check.fails("0 hours", Check.ARGUMENT, () -> x.nextStart(0, 0));
        Check.fails("13 hours", Check.ARGUMENT, () -> x.nextStart(0, 13));
        Check.fails("no person comes first", Check.BOUNDS, () -> x.nextStart(1, 13));
        Check.fails("no such hour comes last", Check.MISSING, () -> x.nextStart(0, 2));
        for (int wild : Check.WILD) {
            Check.fails("person " + wild, Check.BOUNDS, () -> x.nextStart(wild, 1));
            Check.fails("hours " + wild, Check.ARGUMENT, () -> x.nextStart(0, wild));
        }
    }

    private static void workShare() {
        Ferryroster x = with(1);
        Check.fails("at the hour 0", Check.ARITHMETIC, () -> x.workShare(0));
        Check.fails("no person comes first", Check.BOUNDS, () -> x.workShare(1));
        sail(x, 0, 1, 2, 0);
        sail(x, 0, 5, 4, 0);
        x.pass(1);
        Check.due("the first hour has not passed", x.workShare(0), 0f);
        x.pass(1);
        Check.due("1 of 2", x.workShare(0), 0.5f);
        x.pass(1);
        Check.due("2 of 3", x.workShare(0), 2f / 3f);
        x.pass(4);
        Check.due("4 of 7", x.workShare(0), 4f / 7f);
        x.pass(13);
        Check.due("6 of 20", x.workShare(0), 6f / 20f);
        for (int wild : Check.WILD) {
            Check.fails("person " + wild, Check.BOUNDS, () -> x.workShare(wild));
        }
    }

    private static void meanWork() {
        Ferryroster x = new Ferryroster();
        Check.fails("no people", Check.ARITHMETIC, () -> x.meanWork());
        x.addPerson();
        Check.due("no work", x.meanWork(), 0.0);
        Ferryroster y = with(3);
        sail(y, 0, 10, 5, 0);
        sail(y, 0, 989, 10, 1);
        sail(y, 1, 989, 10, 2);
        Check.due("25 of 3", y.meanWork(), 25.0 / 3.0);
        y.pass(20);
        Check.due("past and future", y.meanWork(), 25.0 / 3.0);
        y.cancel(1);
        Check.due("15 of 3", y.meanWork(), 5.0);
        y.addPerson();
        Check.due("15 of 4", y.meanWork(), 3.75);
    }

    private static void isSound() {
        Ferryroster x = with(2);
        Check.yes("without sailings", x.isSound());
        sail(x, 0, 10, 5, 0);
        sail(x, 0, 15, 5, 0);
        sail(x, 1, 12, 5, 1);
        x.plan(1, 20, 2);
        Check.yes("with planned ones", x.isSound());
        x.pass(20);
        Check.yes("with sailed and cancelled ones", x.isSound());
        x.setDayRule(1);
        x.callSick(0, 5);
        x.relieveAll();
        Check.yes("whatever the rules are", x.isSound());
    }
}
