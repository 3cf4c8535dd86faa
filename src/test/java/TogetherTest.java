/** What one part of the office leaves to another: sickness, courses, certificates, posts, rules and hours together. */
public final class TogetherTest {
    public static void main(String[] args) {
        sickDuringACourse();
        sickOnTheLastDayOfACourse();
        courseLeftWhileSick();
        theSickCanLearn();
        eachPersonAlone();
        eachKindAlone();
        grantedDuringACourse();
        renewedAfterACourse();
        postsAreKept();
        completeAgainBeforeItsStart();
        courseAndSailingsInOnePass();
        sailingUnderWay();
        sickOnASailingUnderWay();
        cancelledHoursAreFree();
        reliefMovesTheWork();
        rulesAreThoseOfTheCall();
        Check.end("TogetherTest");
    }

    private static void away(String what, Ferryroster x, int person, int... days) {
        for (int day = 0; day < 42; day++) {
            boolean due = false;
            for (int each : days) {
                due |= each == day;
            }
            Check.due(what + ", person " + person + " on day " + day, x.isAway(person, day), due);
        }
    }

    private static void sickDuringACourse() {
        Ferryroster x = new Ferryroster();
        x.addPerson();
        x.enroll(0, 2, 1, 3);
        Make.days(x, 2);
        x.callSick(0, 4);
        away("sick on a course", x, 0, 1, 2, 3, 4, 5);
        Check.due("sick days", x.recover(0), 4);
        away("well, and on the course", x, 0, 1, 2, 3);
        Make.days(x, 2);
        Check.due("the certificate of the course", x.lastDay(0, 2), 33);
        away("when it is over", x, 0, 1, 2, 3);
    }

    private static void sickOnTheLastDayOfACourse() {
        Ferryroster x = new Ferryroster();
        x.addPerson();
        x.grant(0, 1, 9);
        x.enroll(0, 1, 2, 2);
        Make.days(x, 3);
        x.callSick(0, 20);
        Make.days(x, 1);
        Check.due("the certificate grows for the sick, too", x.lastDay(0, 1), 38);
        Check.due("sick days that are left", x.recover(0), 19);
        Check.fails("no course any more", Check.STATE, () -> x.leaveCourse(0));
    }

    private static void courseLeftWhileSick() {
        Ferryroster x = new Ferryroster();
        x.addPerson();
        x.enroll(0, 0, 1, 5);
        Make.days(x, 2);
        x.callSick(0, 2);
        Check.due("days of the course that are left out", x.leaveCourse(0), 4);
        away("sick, no longer on the course", x, 0, 1, 2, 3);
        Check.due("sick days", x.recover(0), 2);
        away("well", x, 0, 1);
    }

    private static void theSickCanLearn() {
        Ferryroster x = new Ferryroster();
        x.addPerson();
        x.callSick(0, 5);
        Check.due("granted", x.grant(0, 0, 5), 4);
        Check.due("renewed", x.renew(0, 0, 5), 9);
        Check.due("enrolled on sick days", x.enroll(0, 3, 1, 3), 3);
        Make.ship(x, 0);
        x.plan(0, 5 * 24, 2);
        x.plan(0, 5 * 24 - 1, 1);
        Check.due("assigned behind them", x.assign(0, 0, 0), -1);
        Check.due("not on the last of them", x.reason(1, 0, 0), Ferryroster.SICK);
        Make.days(x, 4);
        Check.due("the certificate of the course", x.lastDay(0, 3), 33);
    }

    private static void eachPersonAlone() {
        Ferryroster x = new Ferryroster();
        Make.people(x, 3);
        x.callSick(1, 3);
        x.enroll(2, 0, 4, 2);
        away("neither", x, 0);
        away("sick", x, 1, 0, 1, 2);
        away("on a course", x, 2, 4, 5);
        Check.fails("person 0 is not sick", Check.STATE, () -> x.recover(0));
        Check.fails("person 2 is not sick", Check.STATE, () -> x.recover(2));
        Check.fails("person 1 has no course", Check.STATE, () -> x.leaveCourse(1));
        Make.days(x, 6);
        Check.due("no course", x.lastDay(0, 0), 59);
        Check.due("no course", x.lastDay(1, 0), 59);
        Check.due("a course", x.lastDay(2, 0), 89);
    }

    private static void eachKindAlone() {
        Ferryroster x = new Ferryroster();
        x.addPerson();
        x.grant(0, 0, 3);
        x.grant(0, 2, 5);
        x.renew(0, 2, 1);
        Check.due("not renewed", x.lastDay(0, 0), 2);
        x.enroll(0, 2, 1, 1);
        Make.days(x, 2);
        Check.due("not of the course", x.lastDay(0, 0), 2);
        Check.due("of the course", x.lastDay(0, 2), 35);
        for (int kind = 1; kind < 4; kind += 2) {
            int none = kind;
            Check.fails("none of the kind " + kind, Check.MISSING, () -> x.lastDay(0, none));
        }
    }

    /** One of the kind of the course: it grows if it reaches the course's last day, and is replaced if it does not. */
    private static void grantedDuringACourse() {
        for (int days = 1; days < 4; days++) {
            Ferryroster x = new Ferryroster();
            x.addPerson();
            x.enroll(0, 1, 1, 3);
            Make.days(x, 2);
            Check.due("granted for " + days, x.grant(0, 1, days), 1 + days);
            Make.days(x, 2);
            Check.due("granted for " + days + ", and the course", x.lastDay(0, 1), days < 2 ? 33 : 31 + days);
        }
    }

    private static void renewedAfterACourse() {
        Ferryroster x = new Ferryroster();
        x.addPerson();
        x.enroll(0, 1, 1, 1);
        Make.days(x, 2);
        Check.due("the certificate of the course", x.lastDay(0, 1), 31);
        Make.days(x, 19);
        Check.fails("not yet", Check.STATE, () -> x.renew(0, 1, 60));
        Make.days(x, 1);
        Check.due("nine days before its end", x.renew(0, 1, 60), 91);
    }

    /** Nothing but release, cancel, relief and the hour of the start takes a person off a post. */
    private static void postsAreKept() {
        Ferryroster x = new Ferryroster();
        Make.people(x, 2);
        Make.ship(x, 0, 1);
        Make.sail(x, 0, 30, 6, 0, 1);
        x.callSick(0, 3);
        keeps("sick", x, false);
        x.recover(0);
        keeps("well", x, true);
        x.enroll(1, 0, 1, 2);
        keeps("enrolled", x, false);
        x.leaveCourse(1);
        keeps("not enrolled", x, true);
        x.setDayRule(5);
        keeps("the day rule is broken", x, false);
        x.setDayRule(6);
        keeps("the day rule is kept", x, true);
        x.setWeekRule(5);
        keeps("the week rule is broken", x, false);
        x.setWeekRule(6);
        keeps("the week rule is kept", x, true);
        x.callSick(0, 2);
        x.pass(29);
        keeps("the hour before it", x, false);
        Check.due("cancelled at last", x.pass(1), 1);
        Check.due("no longer on it", x.personOn(0, 0), -1);
        Check.due("no longer on it", x.personOn(0, 1), -1);
    }

    private static void keeps(String what, Ferryroster x, boolean isComplete) {
        Check.due(what + ": the post 0", x.personOn(0, 0), 0);
        Check.due(what + ": the post 1", x.personOn(0, 1), 1);
        Check.due(what + ": complete", x.isComplete(0), isComplete);
        Check.due(what + ": short", x.shortSailings(), isComplete ? 0 : 1);
        Check.due(what + ": work", x.work(0, 0, 999), 6);
    }

    /** What it was in between does not matter when the hour comes. */
    private static void completeAgainBeforeItsStart() {
        Ferryroster x = new Ferryroster();
        Make.people(x, 1);
        Make.ship(x, 0);
        Make.sail(x, 0, 30, 6, 0);
        x.callSick(0, 3);
        x.pass(29);
        x.recover(0);
        Check.due("well in time", x.pass(1), 0);
        Check.due("sailed", x.stateOf(0), 's');
    }

    /** A person gets a post by the certificate of a course that ended within the same hours. */
    private static void courseAndSailingsInOnePass() {
        Ferryroster x = new Ferryroster();
        Make.people(x, 1);
        x.addPerson();
        Make.ship(x, 0);
        Make.ship(x, 0);
        Make.sail(x, 0, 30, 6, 0);
        x.plan(1, 60, 6);
        x.enroll(1, 0, 1, 1);
        Check.due("before", x.reason(1, 0, 1), Ferryroster.NO_CERTIFICATE);
        Check.due("the first one sails", x.pass(48), 0);
        Check.due("sailed", x.stateOf(0), 's');
        Check.due("after", x.assign(1, 0, 1), -1);
        Check.due("the second one sails, too", x.pass(12), 0);
        Check.due("sailed", x.stateOf(1), 's');
    }

    private static Ferryroster underWay() {
        Ferryroster x = new Ferryroster();
        Make.people(x, 2);
        Make.ship(x, 0);
        Make.ship(x, 0);
        Make.sail(x, 0, 5, 6, 0);
        x.pass(7);
        return x;
    }

    private static void sailingUnderWay() {
        Ferryroster x = underWay();
        Check.due("sailed", x.stateOf(0), 's');
        Check.fails("its ship is away", Check.STATE, () -> x.plan(0, 10, 1));
        Check.due("its ship is back", x.plan(0, 11, 1), 1);
        Check.due("another ship", x.plan(1, 10, 1), 2);
        Check.due("its crew is back", x.reason(1, 0, 0), Ferryroster.FITS);
        Check.due("its crew is away", x.reason(2, 0, 0), Ferryroster.ELSEWHERE);
        Check.due("the next start", x.nextStart(0, 1), 11);
        Check.due("the hours that are past", x.workShare(0), 2f / 7f);
        Check.due("all its hours", x.meanWork(), 3.0);
        Check.due("the relief goes around it", x.relieve(2), 1);
        Check.due("by the other one", x.personOn(2, 0), 1);
    }

    /** Who falls sick when the sailing is under way stays on it. */
    private static void sickOnASailingUnderWay() {
        Ferryroster x = underWay();
        Check.due("no planned one", x.callSick(0, 5), 0);
        Check.due("on the post", x.personOn(0, 0), 0);
        Check.due("nothing is short", x.shortSailings(), 0);
        Check.due("nothing to relieve", x.relieveAll(), 0);
        x.pass(20);
        Check.due("sailed", x.stateOf(0), 's');
        Check.due("all its hours", x.work(0, 0, 999), 6);
        Check.yes("sound", x.isSound());
    }

    /** By a call, by the relief and at the start: the ship and the crew are free, the number is not. */
    private static void cancelledHoursAreFree() {
        for (int way = 0; way < 3; way++) {
            Ferryroster x = new Ferryroster();
            Make.people(x, 1);
            Make.ship(x, 0, 1);
            Make.sail(x, 0, 5, 6, 0);
            int cancelled = way == 0 ? x.cancel(0) : way == 1 ? x.relieveAll() : x.pass(5);
            Check.due("cancelled, way " + way, cancelled, 1);
            Check.due("state, way " + way, x.stateOf(0), 'c');
            Check.due("no work, way " + way, x.work(0, 0, 999), 0);
            Check.due("planned again, way " + way, x.plan(0, 6, 6), 1);
            Check.due("on it, way " + way, x.assign(1, 0, 0), -1);
            Check.fails("has sailings, way " + way, Check.STATE, () -> x.addPost(0, 0));
        }
    }

    private static void reliefMovesTheWork() {
        Ferryroster x = new Ferryroster();
        Make.people(x, 2);
        Make.ship(x, 0);
        Make.sail(x, 0, 30, 6, 0);
        x.callSick(0, 3);
        Check.due("changes", x.relieve(0), 1);
        Check.due("work of the sick", x.work(0, 0, 999), 0);
        Check.due("most in a day of the sick", x.mostInDay(0), 0);
        Check.due("most in a week of the sick by hours", x.mostInWeekByHours(0), 0);
        Check.due("work of the other one", x.work(1, 30, 36), 6);
        Check.due("most in a day of the other one by hours", x.mostInDayByHours(1), 6);
        Check.due("most in a week of the other one", x.mostInWeek(1), 6);
        Check.due("sailings of the sick", x.callSick(0, 3), 0);
        Check.due("sailings of the other one", x.callSick(1, 3), 1);
    }

    /** A rule holds for what is asked and done after it is set. */
    private static void rulesAreThoseOfTheCall() {
        Ferryroster x = new Ferryroster();
        Make.people(x, 2);
        Make.ship(x, 0);
        Make.ship(x, 0);
        Make.sail(x, 0, 10, 8, 0);
        x.plan(1, 20, 8);
        Check.due("14 hours", x.reason(1, 0, 0), Ferryroster.DAY_RULE);
        Check.due("who fits", x.fitting(1, 0), 1);
        Check.due("the next start", x.nextStart(0, 8), 28);
        x.setDayRule(16);
        Check.due("16 hours", x.reason(1, 0, 0), Ferryroster.FITS);
        Check.due("who fits", x.fitting(1, 0), 2);
        Check.due("the next start", x.nextStart(0, 8), 1);
        Check.due("the lowest one", x.relieve(1), 1);
        Check.due("on it", x.personOn(1, 0), 0);
        x.setWeekRule(15);
        Check.due("15 hours in a week", x.shortSailings(), 2);
        Check.due("one of them is changed", x.relieveAll(), 0);
        Check.due("the first one", x.personOn(0, 0), 1);
        Check.due("not the second one", x.personOn(1, 0), 0);
    }
}
