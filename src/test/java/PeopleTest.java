/** Promises 6 to 14: people, certificates, sickness and courses. */
public final class PeopleTest {
    public static void main(String[] args) {
        addPerson();
        grant();
        grantIsRefused();
        renew();
        renewIsRefused();
        lastDay();
        callSick();
        callSickCountsSailings();
        recover();
        enroll();
        enrollIsRefused();
        leaveCourse();
        coursesOfThePast();
        theLastDay();
        isAway();
        Check.end("PeopleTest");
    }

    private static Ferryroster withPerson() {
        Ferryroster x = new Ferryroster();
        x.addPerson();
        return x;
    }

    private static void passDays(Ferryroster x, int days) {
        for (int i = 0; i < days; i++) {
            x.pass(24);
        }
    }

    private static void addPerson() {
        Ferryroster x = new Ferryroster();
        for (int person = 0; person < 8; person++) {
            Check.due("the number of a person", x.addPerson(), person);
        }
        Check.fails("a ninth person", Check.STATE, () -> x.addPerson());
        for (int kind = 0; kind < 4; kind++) {
            int each = kind;
            Check.fails("no certificate at first", Check.MISSING, () -> x.lastDay(7, each));
        }
        Check.fails("no person 8", Check.BOUNDS, () -> x.lastDay(8, 0));
        Check.no("not away at first", x.isAway(0, 0));
        Check.due("no work at first", x.mostInDay(0), 0);
    }

    private static void grant() {
        Ferryroster x = withPerson();
        Check.due("for 1 day", x.grant(0, 0, 1), 0);
        Check.due("for 60 days", x.grant(0, 3, 60), 59);
        Check.fails("still valid", Check.STATE, () -> x.grant(0, 0, 5));
        x.addShip(0);
        x.plan(0, 20, 4);
        x.plan(0, 24, 1);
        x.plan(0, 47, 2);
        Check.due("valid on day 0", x.reason(0, 0, 0), Ferryroster.FITS);
        Check.due("not valid on day 1", x.reason(1, 0, 0), Ferryroster.NO_CERTIFICATE);
        x.pass(23);
        Check.fails("still valid in the last hour", Check.STATE, () -> x.grant(0, 0, 5));
        x.pass(1);
        Check.due("in place of one that has ended", x.grant(0, 0, 1), 1);
        Check.due("valid on day 1 only", x.reason(2, 0, 0), Ferryroster.NO_CERTIFICATE);
        passDays(x, 1);
        Check.due("for two days", x.grant(0, 0, 2), 3);
        Check.due("one of another kind", x.grant(0, 1, 2), 3);
    }

    private static void grantIsRefused() {
        Ferryroster x = withPerson();
        x.grant(0, 0, 5);
        Check.fails("kind -1", Check.ARGUMENT, () -> x.grant(0, -1, 5));
        Check.fails("kind 4", Check.ARGUMENT, () -> x.grant(0, 4, 5));
        Check.fails("0 days", Check.ARGUMENT, () -> x.grant(0, 1, 0));
        Check.fails("61 days", Check.ARGUMENT, () -> x.grant(0, 1, 61));
        Check.fails("a wrong kind and a wrong person", Check.BOUNDS, () -> x.grant(1, 4, 61));
        Check.fails("wrong days of a certificate that stands", Check.ARGUMENT, () -> x.grant(0, 0, 61));
        for (int wild : Check.WILD) {
            Check.fails("person " + wild, Check.BOUNDS, () -> x.grant(wild, 0, 5));
            Check.fails("kind " + wild, Check.ARGUMENT, () -> x.grant(0, wild, 5));
            Check.fails("days " + wild, Check.ARGUMENT, () -> x.grant(0, 1, wild));
        }
        Check.fails("nothing was granted", Check.MISSING, () -> x.lastDay(0, 1));
        Check.due("nothing was changed", x.lastDay(0, 0), 4);
    }

    private static void renew() {
        Ferryroster x = withPerson();
        x.grant(0, 2, 10);
        Check.due("nine days before the last", x.renew(0, 2, 1), 10);
        Check.fails("ten days before the last", Check.STATE, () -> x.renew(0, 2, 1));
        passDays(x, 1);
        Check.due("the next day, by 60 days", x.renew(0, 2, 60), 70);
        Check.due("the last day is later", x.lastDay(0, 2), 70);
        x.grant(0, 1, 1);
        x.pass(23);
        Check.due("on the last day", x.renew(0, 1, 2), 3);
        x.grant(0, 0, 1);
        x.pass(1);
        Check.fails("the day after the last", Check.STATE, () -> x.renew(0, 0, 2));
        Check.due("the one that has ended stays", x.lastDay(0, 0), 1);
        x.addShip(1);
        x.plan(0, 60, 2);
        x.plan(0, 90, 12);
        Check.due("a renewed one is valid", x.reason(0, 0, 0), Ferryroster.FITS);
        Check.due("up to its last day", x.reason(1, 0, 0), Ferryroster.NO_CERTIFICATE);
    }

    private static void renewIsRefused() {
        Ferryroster x = withPerson();
        x.grant(0, 0, 60);
        Check.fails("kind -1", Check.ARGUMENT, () -> x.renew(0, -1, 5));
        Check.fails("kind 4", Check.ARGUMENT, () -> x.renew(0, 4, 5));
        Check.fails("0 days", Check.ARGUMENT, () -> x.renew(0, 0, 0));
        Check.fails("61 days", Check.ARGUMENT, () -> x.renew(0, 0, 61));
        Check.fails("no certificate", Check.MISSING, () -> x.renew(0, 1, 5));
        Check.fails("wrong days come before no certificate", Check.ARGUMENT, () -> x.renew(0, 1, 61));
        Check.fails("no person comes before all", Check.BOUNDS, () -> x.renew(1, 4, 61));
        Check.fails("too early", Check.STATE, () -> x.renew(0, 0, 5));
        for (int wild : Check.WILD) {
            Check.fails("person " + wild, Check.BOUNDS, () -> x.renew(wild, 0, 5));
            Check.fails("kind " + wild, Check.ARGUMENT, () -> x.renew(0, wild, 5));
            Check.fails("days " + wild, Check.ARGUMENT, () -> x.renew(0, 0, wild));
        }
        Check.due("nothing was changed", x.lastDay(0, 0), 59);
    }

    private static void lastDay() {
        Ferryroster x = withPerson();
        x.grant(0, 3, 2);
        Check.due("the last day", x.lastDay(0, 3), 1);
        passDays(x, 5);
        Check.due("also of one that has ended", x.lastDay(0, 3), 1);
        Check.fails("no certificate of the kind", Check.MISSING, () -> x.lastDay(0, 2));
        Check.fails("kind 4", Check.ARGUMENT, () -> x.lastDay(0, 4));
        Check.fails("no person and no kind", Check.BOUNDS, () -> x.lastDay(1, 4));
        for (int wild : Check.WILD) {
            Check.fails("person " + wild, Check.BOUNDS, () -> x.lastDay(wild, 3));
            Check.fails("kind " + wild, Check.ARGUMENT, () -> x.lastDay(0, wild));
        }
    }

    private static void callSick() {
        Ferryroster x = withPerson();
        x.pass(30);
        Check.due("no sailings", x.callSick(0, 3), 0);
        Check.no("not on the day before", x.isAway(0, 0));
        Check.yes("on the present day", x.isAway(0, 1));
        Check.yes("on the third day", x.isAway(0, 3));
        Check.no("not on the fourth day", x.isAway(0, 4));
        x.callSick(0, 1);
        Check.yes("sick days stay so", x.isAway(0, 3));
        Check.fails("0 days", Check.ARGUMENT, () -> x.callSick(0, 0));
        Check.fails("21 days", Check.ARGUMENT, () -> x.callSick(0, 21));
        Check.fails("no person and wrong days", Check.BOUNDS, () -> x.callSick(1, 21));
        for (int wild : Check.WILD) {
            Check.fails("person " + wild, Check.BOUNDS, () -> x.callSick(wild, 1));
            Check.fails("days " + wild, Check.ARGUMENT, () -> x.callSick(0, wild));
        }
        Check.due("nothing was changed", x.recover(0), 3);
        passDays(x, 37);
        Check.due("days beyond 41 are left out", x.callSick(0, 20), 0);
        Check.yes("on the day 41", x.isAway(0, 41));
        Check.due("days 38 to 41", x.recover(0), 4);
    }

    private static void callSickCountsSailings() {
        Ferryroster x = withPerson();
        x.addPerson();
        x.grant(0, 0, 60);
        x.grant(1, 0, 60);
        x.addShip(0);
        x.plan(0, 2, 2);
        x.plan(0, 20, 4);
        x.plan(0, 46, 4);
        x.plan(0, 72, 2);
        x.plan(0, 80, 2);
        x.plan(0, 97, 2);
        for (int sailing = 0; sailing < 6; sailing++) {
            x.assign(sailing, 0, sailing == 4 ? 1 : 0);
        }
        x.pass(3);
        Check.due("on day 0, but not one that has sailed", x.callSick(0, 1), 1);
        Check.due("up to day 1, with one that goes over midnight", x.callSick(0, 2), 2);
        Check.due("up to day 3, but not of another person", x.callSick(0, 4), 3);
        Check.due("the other person", x.callSick(1, 4), 1);
        Check.due("all", x.callSick(0, 20), 4);
        x.cancel(3);
        Check.due("but not a cancelled one", x.callSick(0, 20), 3);
        x.release(5, 0);
        Check.due("nor one that the person has left", x.callSick(0, 20), 2);
        x.pass(45);
        Check.due("the one of day 1 to 2 was cancelled", x.stateOf(2), 'c');

        Ferryroster y = withPerson();
        y.grant(0, 0, 60);
        y.addShip(0);
        y.plan(0, 46, 4);
        y.assign(0, 0, 0);
        Check.due("it begins after the only sick day", y.callSick(0, 1), 0);
        y.pass(24);
        Check.due("it begins on the sick day", y.callSick(0, 1), 1);
        Check.due("it has an hour on the day 1", y.reason(0, 0, 0), Ferryroster.SICK);
        y.recover(0);
        Check.due("well again", y.reason(0, 0, 0), Ferryroster.FITS);
    }

    private static void recover() {
        Ferryroster x = withPerson();
        x.addPerson();
        Check.fails("not sick", Check.STATE, () -> x.recover(0));
        x.callSick(0, 5);
        passDays(x, 2);
        Check.fails("another person is not sick", Check.STATE, () -> x.recover(1));
        Check.due("days 2, 3 and 4", x.recover(0), 3);
        Check.yes("was sick on day 1", x.isAway(0, 1));
        Check.no("is well on day 2", x.isAway(0, 2));
        Check.no("is well on day 4", x.isAway(0, 4));
        Check.fails("is well", Check.STATE, () -> x.recover(0));
        x.callSick(0, 1);
        passDays(x, 1);
        Check.fails("was sick until yesterday", Check.STATE, () -> x.recover(0));
        Check.yes("was sick on day 2", x.isAway(0, 2));
        x.enroll(0, 0, 4, 2);
        Check.fails("a course is no sickness", Check.STATE, () -> x.recover(0));
        x.callSick(0, 20);
        x.recover(0);
        Check.yes("the course stays", x.isAway(0, 5));
        for (int wild : Check.WILD) {
            Check.fails("person " + wild, Check.BOUNDS, () -> x.recover(wild));
        }
        Check.fails("no person 2", Check.BOUNDS, () -> x.recover(2));
    }

    private static void enroll() {
        Ferryroster x = withPerson();
        x.addPerson();
        Check.due("the last day", x.enroll(0, 1, 1, 10), 10);
        Check.no("not away before", x.isAway(0, 0));
        Check.yes("away on the first day", x.isAway(0, 1));
        Check.yes("away on the last day", x.isAway(0, 10));
        Check.no("not away after", x.isAway(0, 11));
        Check.due("a course of one day, the last one", x.enroll(1, 1, 41, 1), 41);
        Check.fails("a course before it has begun", Check.STATE, () -> x.enroll(1, 1, 2, 1));
        passDays(x, 10);
        Check.fails("a course on its last day", Check.STATE, () -> x.enroll(0, 1, 12, 1));
        passDays(x, 1);
        Check.due("when it is over", x.enroll(0, 2, 12, 2), 13);
        Check.yes("the days of the old one stay", x.isAway(0, 5));
        passDays(x, 3);
        Check.due("the certificate of the first", x.lastDay(0, 1), 40);
        Check.due("the certificate of the second", x.lastDay(0, 2), 43);
        Check.due("the third, of the first kind", x.enroll(0, 1, 15, 1), 15);
        passDays(x, 2);
        Check.due("grows by 30", x.lastDay(0, 1), 70);
    }

    private static void enrollIsRefused() {
        Ferryroster x = withPerson();
        x.pass(24);
        Check.fails("kind -1", Check.ARGUMENT, () -> x.enroll(0, -1, 5, 1));
        Check.fails("kind 4", Check.ARGUMENT, () -> x.enroll(0, 4, 5, 1));
        Check.fails("on the present day", Check.ARGUMENT, () -> x.enroll(0, 0, 1, 1));
        Check.fails("before the present day", Check.ARGUMENT, () -> x.enroll(0, 0, 0, 1));
        Check.fails("on the day 42", Check.ARGUMENT, () -> x.enroll(0, 0, 42, 1));
        Check.fails("0 days", Check.ARGUMENT, () -> x.enroll(0, 0, 2, 0));
        Check.fails("11 days", Check.ARGUMENT, () -> x.enroll(0, 0, 2, 11));
        Check.fails("up to the day 42", Check.ARGUMENT, () -> x.enroll(0, 0, 33, 10));
        for (int wild : Check.WILD) {
            Check.fails("person " + wild, Check.BOUNDS, () -> x.enroll(wild, 0, 5, 1));
            Check.fails("kind " + wild, Check.ARGUMENT, () -> x.enroll(0, wild, 5, 1));
            Check.fails("first " + wild, Check.ARGUMENT, () -> x.enroll(0, 0, wild, 1));
            Check.fails("days " + wild, Check.ARGUMENT, () -> x.enroll(0, 0, 5, wild));
        }
        Check.due("nothing was changed, and up to the day 41", x.enroll(0, 0, 32, 10), 41);
        Check.fails("wrong days come before the other course", Check.ARGUMENT, () -> x.enroll(0, 0, 5, 11));
        Check.fails("no person comes before all", Check.BOUNDS, () -> x.enroll(1, 4, 0, 11));
        Check.fails("the other course", Check.STATE, () -> x.enroll(0, 0, 5, 1));
    }

    private static void leaveCourse() {
        Ferryroster x = withPerson();
        x.addPerson();
        Check.fails("no course", Check.STATE, () -> x.leaveCourse(0));
        x.enroll(0, 0, 3, 4);
        Check.due("before it has begun", x.leaveCourse(0), 4);
        Check.no("not away", x.isAway(0, 3));
        Check.fails("no course any more", Check.STATE, () -> x.leaveCourse(0));
        x.enroll(0, 0, 2, 4);
        Check.fails("the course of another person", Check.STATE, () -> x.leaveCourse(1));
        passDays(x, 4);
        Check.due("days 4 and 5", x.leaveCourse(0), 2);
        Check.yes("was on it on day 3", x.isAway(0, 3));
        Check.no("is not on it on day 4", x.isAway(0, 4));
        Check.no("is not on it on day 5", x.isAway(0, 5));
        passDays(x, 3);
        Check.fails("and gets no certificate", Check.MISSING, () -> x.lastDay(0, 0));
        x.enroll(0, 0, 8, 1);
        passDays(x, 1);
        Check.due("on its last day", x.leaveCourse(0), 1);
        Check.fails("no person 2", Check.BOUNDS, () -> x.leaveCourse(2));
        for (int wild : Check.WILD) {
            Check.fails("person " + wild, Check.BOUNDS, () -> x.leaveCourse(wild));
        }
        x.callSick(0, 3);
        x.enroll(0, 0, 9, 2);
        x.leaveCourse(0);
        Check.yes("stays sick", x.isAway(0, 9));
    }

    private static void coursesOfThePast() {
        Ferryroster x = withPerson();
        x.grant(0, 0, 60);
        x.addShip(0);
        x.enroll(0, 1, 1, 1);
        x.plan(0, 22, 3);
        Check.due("the second day of the sailing", x.reason(0, 0, 0), Ferryroster.ON_COURSE);
        passDays(x, 2);
        x.enroll(0, 1, 4, 1);
        Check.yes("the course that is over", x.isAway(0, 1));
        Check.no("between the two", x.isAway(0, 2));
        Check.yes("the other one", x.isAway(0, 4));
        Check.due("leaving the other one", x.leaveCourse(0), 1);
        Check.yes("does not touch the one that is over", x.isAway(0, 1));
    }

    private static void theLastDay() {
        Ferryroster x = withPerson();
        x.enroll(0, 1, 41, 1);
        passDays(x, 40);
        x.grant(0, 0, 9);
        x.addShip(0);
        x.plan(0, 983, 2);
        x.plan(0, 985, 2);
        Check.due("on a course on the day 41", x.reason(0, 0, 0), Ferryroster.ON_COURSE);
        Check.due("leaves it", x.leaveCourse(0), 1);
        x.assign(0, 0, 0);
        x.pass(23);
        x.assign(1, 0, 0);
        x.pass(1);
        Check.due("sick on the day 41", x.callSick(0, 20), 1);
        Check.due("the reason", x.reason(1, 0, 0), Ferryroster.SICK);
        Check.due("well on the day 41", x.recover(0), 1);
        Check.fails("not sick", Check.STATE, () -> x.recover(0));
        Check.no("not away", x.isAway(0, 41));
        Check.fails("no later day", Check.ARGUMENT, () -> x.enroll(0, 1, 42, 1));
        Check.due("sails", x.pass(1), 0);
    }

    private static void isAway() {
        Ferryroster x = withPerson();
        x.callSick(0, 2);
        x.enroll(0, 0, 1, 2);
        Check.yes("sick", x.isAway(0, 0));
        Check.yes("sick and on a course", x.isAway(0, 1));
        Check.yes("on a course", x.isAway(0, 2));
        Check.no("neither", x.isAway(0, 3));
        Check.no("day 41", x.isAway(0, 41));
        Check.fails("day 42", Check.ARGUMENT, () -> x.isAway(0, 42));
        Check.fails("no person and no day", Check.BOUNDS, () -> x.isAway(1, 42));
        for (int wild : Check.WILD) {
            Check.fails("person " + wild, Check.BOUNDS, () -> x.isAway(wild, 0));
            Check.fails("day " + wild, Check.ARGUMENT, () -> x.isAway(0, wild));
        }
    }
}
