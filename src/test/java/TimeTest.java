/** Promises 1 to 5: a new object, the hours that pass, and the rules. */
public final class TimeTest {
    public static void main(String[] args) {
        aNewObject();
        passCountsHours();
        passIsRefused();
        passSailsOrCancels();
        passGoesHourByHour(true);
        passGoesHourByHour(false);
        passEndsCourses();
        passEndsCoursesBeforeItLooksAtSailings();
        rules();
        rulesLeavePeopleOnTheirPosts();
        Check.end("TimeTest");
    }

    private static void aNewObject() {
        Ferryroster x = new Ferryroster();
        Check.due("now of a new office", x.now(), 0);
        Check.fails("no person 0", Check.BOUNDS, () -> x.recover(0));
        Check.fails("no ship 0", Check.BOUNDS, () -> x.addPost(0, 0));
        Check.fails("no sailing 0", Check.MISSING, () -> x.stateOf(0));
        Check.due("short sailings of a new office", x.shortSailings(), 0);
        Check.due("planned sailings of a new office", x.sailings('p'), 0);
        Check.due("relieveAll of a new office", x.relieveAll(), 0);
        Check.yes("a new office is sound", x.isSound());
        Check.fails("no mean without people", Check.ARITHMETIC, () -> x.meanWork());
        Check.due("first person", x.addPerson(), 0);
        Check.due("first ship", x.addShip(0), 0);
        Ferryroster other = new Ferryroster();
        Check.fails("offices are apart", Check.BOUNDS, () -> other.mostInDay(0));
    }

    private static void passCountsHours() {
        Ferryroster x = new Ferryroster();
        Check.due("pass(1)", x.pass(1), 0);
        Check.due("now after 1", x.now(), 1);
        Check.due("pass(48)", x.pass(48), 0);
        Check.due("now after 49", x.now(), 49);
        for (int i = 0; i < 19; i++) {
            x.pass(48);
        }
        Check.due("now after 961", x.now(), 961);
        Check.fails("pass beyond 999", Check.STATE, () -> x.pass(39));
        Check.due("a refused pass changes nothing", x.now(), 961);
        Check.due("pass up to 999", x.pass(38), 0);
        Check.due("now at the end", x.now(), 999);
        Check.fails("pass at the end", Check.STATE, () -> x.pass(1));
        Check.fails("out of range comes before the end", Check.ARGUMENT, () -> x.pass(49));
        Check.fails("zero comes before the end", Check.ARGUMENT, () -> x.pass(0));
    }

    private static void passIsRefused() {
        Ferryroster x = new Ferryroster();
        Check.fails("pass(0)", Check.ARGUMENT, () -> x.pass(0));
        Check.fails("pass(49)", Check.ARGUMENT, () -> x.pass(49));
        for (int hours : Check.WILD) {
            Check.fails("pass(" + hours + ")", Check.ARGUMENT, () -> x.pass(hours));
        }
        Check.due("refused passes change nothing", x.now(), 0);
    }

    private static void passSailsOrCancels() {
        Ferryroster x = new Ferryroster();
        x.addPerson();
        x.grant(0, 0, 2);
        x.addShip(0);
        x.plan(0, 3, 2);
        x.plan(0, 5, 2);
        x.plan(0, 30, 2);
        x.plan(0, 32, 2);
        x.plan(0, 48, 2);
        x.assign(0, 0, 0);
        x.assign(2, 0, 0);
        Check.due("before the start", x.pass(2), 0);
        Check.due("still planned", x.stateOf(0), 'p');
        Check.due("the hour of the start", x.pass(1), 0);
        Check.due("sailed at the start", x.stateOf(0), 's');
        Check.due("keeps the crew", x.personOn(0, 0), 0);
        Check.due("without a crew", x.pass(2), 1);
        Check.due("cancelled", x.stateOf(1), 'c');
        x.pass(20);
        x.callSick(0, 1);
        Check.due("one with a sick crew, one without a crew", x.pass(10), 2);
        Check.due("the sick crew did not sail", x.stateOf(2), 'c');
        Check.due("its post is open", x.personOn(2, 0), -1);
        Check.due("no work on it", x.work(0, 24, 48), 0);
        x.recover(0);
        Check.fails("the certificate ends on day 1", Check.UNSUPPORTED, () -> x.assign(4, 0, 0));
        Check.due("the sailing of day 2", x.pass(20), 1);
    }

    /**
     * One person is on two sailings, and too long for both. The one is short of another person; the other one is
     * complete only after the short one is cancelled: which helps if the short one starts earlier.
     */
    private static void passGoesHourByHour(boolean shortOneIsFirst) {
        Ferryroster x = new Ferryroster();
        x.addPerson();
        x.grant(0, 0, 9);
        x.addShip(0);
        x.addShip(0);
        x.addPost(0, 0);
        int lacking = shortOneIsFirst ? 0 : 1;
        int whole = 1 - lacking;
        x.setDayRule(24);
        if (shortOneIsFirst) {
            x.plan(0, 40, 6);
            x.plan(1, 46, 2);
        } else {
            x.plan(1, 40, 2);
            x.plan(0, 42, 6);
        }
        x.assign(lacking, 0, 0);
        x.assign(whole, 0, 0);
        x.setDayRule(7);
        Check.no("both have too much work", x.isComplete(whole));
        Check.due("the cancelled ones", x.pass(46), shortOneIsFirst ? 1 : 2);
        Check.due("the one with all its people", x.stateOf(whole), shortOneIsFirst ? 's' : 'c');
    }

    private static void passEndsCourses() {
        Ferryroster x = new Ferryroster();
        for (int person = 0; person < 5; person++) {
            x.addPerson();
        }
        x.grant(1, 2, 3);
        x.grant(2, 2, 4);
        x.grant(3, 2, 60);
        x.grant(4, 1, 60);
        for (int person = 0; person < 5; person++) {
            x.enroll(person, 2, 1, 3);
        }
        x.pass(48);
        x.pass(47);
        Check.due("the last hour of day 3", x.now(), 95);
        Check.fails("no certificate before the course is over", Check.MISSING, () -> x.lastDay(0, 2));
        Check.due("the old one", x.lastDay(1, 2), 2);
        x.pass(1);
        Check.due("a new certificate", x.lastDay(0, 2), 33);
        Check.due("one that ended on day 2 is replaced", x.lastDay(1, 2), 33);
        Check.due("one that ended on day 3 grows", x.lastDay(2, 2), 33);
        Check.due("one that is valid grows", x.lastDay(3, 2), 89);
        Check.due("another kind has no say", x.lastDay(4, 2), 33);
        Check.due("another kind stays", x.lastDay(4, 1), 59);
        Check.fails("the course is over", Check.STATE, () -> x.leaveCourse(0));
        Check.yes("still counts as away on its last day", x.isAway(0, 3));
        x.addShip(2);
        x.plan(0, 97, 2);
        Check.due("the new one is valid from day 4", x.reason(0, 0, 0), Ferryroster.FITS);
        Check.due("the one that grew was valid all the time", x.reason(0, 0, 2), Ferryroster.FITS);
        x.pass(24);
        Check.due("a course is over once", x.lastDay(0, 2), 33);
    }

    private static void passEndsCoursesBeforeItLooksAtSailings() {
        Ferryroster x = new Ferryroster();
        x.addPerson();
        x.grant(0, 0, 2);
        x.addShip(0);
        x.plan(0, 48, 1);
        x.plan(0, 70, 4);
        x.enroll(0, 0, 1, 1);
        Check.due("not valid on day 2 yet", x.reason(0, 0, 0), Ferryroster.NO_CERTIFICATE);
        x.leaveCourse(0);
        x.renew(0, 0, 1);
        x.assign(0, 0, 0);
        x.enroll(0, 0, 1, 1);
        x.setDayRule(1);
        Check.due("sails in hour 48", x.pass(48), 0);
        Check.due("sailed", x.stateOf(0), 's');
        Check.due("the course of day 1 is over", x.lastDay(0, 0), 32);

        // The hour 24 brings the end of the course first, and only with its certificate is the crew complete.
        Ferryroster y = new Ferryroster();
        y.addPerson();
        y.addPerson();
        y.grant(0, 0, 20);
        y.addShip(0);
        y.plan(0, 47, 2);
        y.plan(0, 49, 1);
        y.assign(1, 0, 0);
        y.enroll(0, 0, 1, 1);
        y.pass(46);
        Check.due("on a course on day 1", y.reason(0, 0, 0), Ferryroster.ON_COURSE);
        Check.due("not on a course on day 2", y.reason(1, 0, 0), Ferryroster.FITS);
        Check.due("one without a crew", y.pass(3), 1);
        Check.due("one with a crew", y.stateOf(1), 's');
    }

    private static void rules() {
        Ferryroster x = new Ferryroster();
        Check.due("the day rule at first", x.setDayRule(1), 14);
        Check.due("the day rule after 1", x.setDayRule(24), 1);
        Check.fails("day rule 0", Check.ARGUMENT, () -> x.setDayRule(0));
        Check.fails("day rule 25", Check.ARGUMENT, () -> x.setDayRule(25));
        Check.due("the week rule at first", x.setWeekRule(1), 72);
        Check.due("the week rule after 1", x.setWeekRule(168), 1);
        Check.fails("week rule 0", Check.ARGUMENT, () -> x.setWeekRule(0));
        Check.fails("week rule 169", Check.ARGUMENT, () -> x.setWeekRule(169));
        for (int hours : Check.WILD) {
            Check.fails("setDayRule(" + hours + ")", Check.ARGUMENT, () -> x.setDayRule(hours));
            Check.fails("setWeekRule(" + hours + ")", Check.ARGUMENT, () -> x.setWeekRule(hours));
        }
        Check.due("the day rule after refusals", x.setDayRule(14), 24);
        Check.due("the week rule after refusals", x.setWeekRule(72), 168);
    }

    private static void rulesLeavePeopleOnTheirPosts() {
        Ferryroster x = new Ferryroster();
        x.addPerson();
        x.grant(0, 0, 9);
        x.addShip(0);
        x.plan(0, 5, 8);
        x.assign(0, 0, 0);
        x.setDayRule(7);
        Check.due("stays with a day rule of 7", x.personOn(0, 0), 0);
        Check.no("is not complete", x.isComplete(0));
        Check.due("the reason", x.reason(0, 0, 0), Ferryroster.DAY_RULE);
        x.setDayRule(8);
        Check.yes("complete with a day rule of 8", x.isComplete(0));
        x.setWeekRule(7);
        Check.due("stays with a week rule of 7", x.personOn(0, 0), 0);
        Check.due("the other reason", x.reason(0, 0, 0), Ferryroster.WEEK_RULE);
        Check.due("is cancelled", x.pass(5), 1);
    }
}
