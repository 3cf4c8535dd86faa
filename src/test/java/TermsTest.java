/** Each sentence of the document's Terms, at the cases that it bounds. */
public final class TermsTest {
    public static void main(String[] args) {
        hoursOfADay();
        aDayBeginsWithItsFirstHour();
        theLastDay();
        oneCertificateForEachKind();
        lastDayOfACertificate();
        sickDays();
        courseDays();
        courseDaysWhenItIsOver();
        courseIsOverWhenItsLastDayEnds();
        certificateOfACourse();
        certificateOfACourseIsNew();
        certificateOfACourseGrows();
        hoursOfASailing();
        nobodyHasTwoPosts();
        postsOpenWhenCancelled();
        workCounts();
        dayRuleAtFirst();
        weekRuleAtFirst();
        certificateOfTheKindOfThePost();
        certificateOnEachDay();
        sickOnOneOfItsDays();
        onACourseOnOneOfItsDays();
        elsewhere();
        elsewhereWhereverThePostIs();
        rowsOfADay();
        rowsOfAWeek();
        rowsOverASailing();
        rowsWithoutTheSailing();
        rowsThatReachOutOfTime();
        greatestRules();
        smallestRules();
        ownPostsAreTakenAsOpen();
        firstReason();
        complete();
        startsAreLookedAt();
        eachIncompleteOneIsCancelled();
        coursesAreOverFirst();
        hoursPassOneAfterTheOther();
        cancelledAtItsStartSetsFree();
        Check.end("TermsTest");
    }

    private static Ferryroster with(int people) {
        Ferryroster x = new Ferryroster();
        Make.people(x, people);
        return x;
    }

    // ---- time

    /** "The day d consists of the hours 24 * d to 24 * d + 23" */
    private static void hoursOfADay() {
        int[] hours = {0, 1, 23, 24, 47, 48, 983, 984, 999};
        int[] days = {0, 0, 0, 1, 1, 2, 40, 41, 41};
        for (int i = 0; i < hours.length; i++) {
            int hour = hours[i];
            Twin.answers("a day's certificate in the hour " + hour, days[i], x -> {
                x.addPerson();
                Make.hours(x, hour);
            }, x -> x.grant(0, 0, 1));
        }
    }

    /** The days of a sailing: its last hour is 23 or 24, its first hour is 23 or 24. */
    private static void aDayBeginsWithItsFirstHour() {
        int[] starts = {12, 13, 23, 24, 23};
        int[] lengths = {12, 12, 1, 1, 2};
        int[] lastDays = {0, 1, 0, 1, 1};
        for (int i = 0; i < starts.length; i++) {
            String what = lengths[i] + " hours from " + starts[i];
            for (int days = 1; days < 3; days++) {
                Ferryroster x = new Ferryroster();
                x.addPerson();
                x.grant(0, 0, days);
                x.addShip(0);
                x.plan(0, starts[i], lengths[i]);
                boolean fits = lastDays[i] < days;
                Check.due(what + " with a certificate for " + days, x.reason(0, 0, 0),
                        fits ? Ferryroster.FITS : Ferryroster.NO_CERTIFICATE);
            }
        }
    }

    /** "The last day is the day 41." */
    private static void theLastDay() {
        Ferryroster x = with(1);
        Make.days(x, 22);
        x.callSick(0, 20);
        Check.yes("sick on the day 41", x.isAway(0, 41));
        Check.due("on 20 days", x.recover(0), 20);
        Ferryroster y = with(1);
        Make.days(y, 23);
        y.callSick(0, 20);
        Check.due("the day 42 is left out", y.recover(0), 19);
        Ferryroster z = with(1);
        z.addShip(0);
        Check.due("a course on the day 41", z.enroll(0, 0, 41, 1), 41);
        z.plan(0, 983, 1);
        z.plan(0, 984, 1);
        Check.due("not on the day 40", z.reason(0, 0, 0), Ferryroster.FITS);
        Check.due("on a course on the day 41", z.reason(1, 0, 0), Ferryroster.ON_COURSE);
        Make.days(z, 40);
        z.callSick(0, 1);
        Check.due("sick on the day 40", z.reason(0, 0, 0), Ferryroster.SICK);
        Check.due("not sick on the day 41", z.reason(1, 0, 0), Ferryroster.ON_COURSE);
        z.callSick(0, 2);
        Check.due("sick on the day 41", z.reason(1, 0, 0), Ferryroster.SICK);
    }

    // ---- people

    /** "For each kind, a person has one certificate or none." */
    private static void oneCertificateForEachKind() {
        Ferryroster x = new Ferryroster();
        x.addPerson();
        x.addPerson();
        for (int kind = 0; kind < 4; kind++) {
            x.grant(0, kind, 10 + kind);
            for (int other = kind + 1; other < 4; other++) {
                int none = other;
                Check.fails("none of kind " + other, Check.MISSING, () -> x.lastDay(0, none));
            }
        }
        for (int kind = 0; kind < 4; kind++) {
            int none = kind;
            Check.due("the last day of kind " + kind, x.lastDay(0, kind), 9 + kind);
            Check.fails("none of another person", Check.MISSING, () -> x.lastDay(1, none));
        }
        x.renew(0, 0, 1);
        Check.due("the renewed one", x.lastDay(0, 0), 10);
        Check.due("not renewed", x.lastDay(0, 1), 10);
        Ferryroster y = new Ferryroster();
        y.addPerson();
        y.grant(0, 2, 1);
        y.pass(24);
        y.grant(0, 2, 7);
        Check.due("the one in place of the one before", y.lastDay(0, 2), 7);
    }

    /** "is valid on these days and on all days between them" */
    private static void lastDayOfACertificate() {
        int[] starts = {1, 24, 71, 72, 73, 96};
        for (int start : starts) {
            Ferryroster x = new Ferryroster();
            x.addPerson();
            x.grant(0, 0, 3);
            x.addShip(0);
            x.plan(0, start, 1);
            Check.due("valid in the hour " + start, x.reason(0, 0, 0),
                    start < 72 ? Ferryroster.FITS : Ferryroster.NO_CERTIFICATE);
        }
    }

    /** "A person can be sick on certain days." */
    private static void sickDays() {
        Ferryroster x = with(2);
        x.pass(24);
        x.callSick(0, 2);
        boolean[] due = {false, true, true, false};
        for (int day = 0; day < due.length; day++) {
            Check.due("away on day " + day, x.isAway(0, day), due[day]);
            Check.no("the other one on day " + day, x.isAway(1, day));
        }
    }

    /** "the person is on the course on these days and on all days between them" */
    private static void courseDays() {
        Ferryroster x = with(2);
        x.addShip(0);
        x.enroll(0, 0, 2, 3);
        boolean[] due = {false, false, true, true, true, false};
        for (int day = 0; day < due.length; day++) {
            Check.due("away on day " + day, x.isAway(0, day), due[day]);
            Check.no("the other one on day " + day, x.isAway(1, day));
            x.plan(0, 24 * day + 1, 1);
            Check.due("reason on day " + day, x.reason(day, 0, 0),
                    due[day] ? Ferryroster.ON_COURSE : Ferryroster.FITS);
        }
    }

    /** "also when the course is over and the person has another one" */
    private static void courseDaysWhenItIsOver() {
        Ferryroster x = with(1);
        x.enroll(0, 0, 1, 2);
        Make.days(x, 3);
        x.enroll(0, 1, 5, 1);
        boolean[] due = {false, true, true, false, false, true, false};
        for (int day = 0; day < due.length; day++) {
            Check.due("with another one, day " + day, x.isAway(0, day), due[day]);
        }
        x.leaveCourse(0);
        due[5] = false;
        for (int day = 0; day < due.length; day++) {
            Check.due("when the other one is left, day " + day, x.isAway(0, day), due[day]);
        }
    }

    /** "When the last day of a course ends, the course is over, and the person gets a certificate" */
    private static void courseIsOverWhenItsLastDayEnds() {
        Ferryroster x = new Ferryroster();
        x.addPerson();
        x.enroll(0, 3, 1, 1);
        Make.hours(x, 47);
        Check.fails("no certificate in the hour 47", Check.MISSING, () -> x.lastDay(0, 3));
        Check.fails("not over in the hour 47", Check.STATE, () -> x.enroll(0, 3, 5, 1));
        x.pass(1);
        Check.due("a certificate in the hour 48", x.lastDay(0, 3), 31);
        Check.fails("over in the hour 48", Check.STATE, () -> x.leaveCourse(0));
        Check.due("another course in the hour 48", x.enroll(0, 3, 3, 1), 3);
        for (int kind = 0; kind < 3; kind++) {
            int other = kind;
            Check.fails("none of kind " + kind, Check.MISSING, () -> x.lastDay(0, other));
        }
    }

    /** "a certificate ... whose last day is not less than the last day of the course": one less, as much, one more. */
    private static void certificateOfACourse() {
        int[] certificateDays = {4, 5, 6, 7, 60};
        int[] due = {34, 34, 35, 36, 89};
        for (int i = 0; i < certificateDays.length; i++) {
            Ferryroster x = new Ferryroster();
            x.addPerson();
            x.grant(0, 2, certificateDays[i]);
            x.enroll(0, 2, 3, 2);
            Make.days(x, 5);
            Check.due("the course ends on day 4, the other one on day " + (certificateDays[i] - 1), x.lastDay(0, 2),
                    due[i]);
        }
        Ferryroster y = new Ferryroster();
        y.addPerson();
        y.grant(0, 2, 1);
        y.enroll(0, 2, 1, 1);
        Make.days(y, 2);
        Check.due("the course ends on day 1, the other one on day 0", y.lastDay(0, 2), 31);
    }

    /** "whose first day is the next day and whose last day is 29 days later" */
    private static void certificateOfACourseIsNew() {
        Ferryroster x = new Ferryroster();
        x.addPerson();
        x.addShip(1);
        x.enroll(0, 1, 1, 1);
        x.plan(0, 47, 1);
        x.plan(0, 49, 1);
        x.plan(0, 24 * 32 - 1, 1);
        x.plan(0, 24 * 32, 1);
        Make.hours(x, 46);
        Check.due("none before", x.reason(1, 0, 0), Ferryroster.NO_CERTIFICATE);
        x.pass(2);
        Check.due("valid on the day 2", x.reason(1, 0, 0), Ferryroster.FITS);
        Check.due("valid on the day 31", x.reason(2, 0, 0), Ferryroster.FITS);
        Check.due("not valid on the day 32", x.reason(3, 0, 0), Ferryroster.NO_CERTIFICATE);
        Ferryroster y = new Ferryroster();
        y.addPerson();
        y.enroll(0, 1, 40, 1);
        Make.days(y, 41);
        Check.due("from the day 41 on", y.lastDay(0, 1), 70);
    }

    /** "its last day increases by 30": it stays valid in between, and another kind has no say. */
    private static void certificateOfACourseGrows() {
        Ferryroster x = new Ferryroster();
        x.addPerson();
        x.addShip(1);
        x.grant(0, 1, 2);
        x.grant(0, 0, 40);
        x.plan(0, 48, 1);
        x.enroll(0, 1, 1, 1);
        Check.due("not valid on the day 2 yet", x.reason(0, 0, 0), Ferryroster.NO_CERTIFICATE);
        x.plan(0, 24 * 32 - 1, 1);
        x.plan(0, 24 * 32, 1);
        Make.hours(x, 48);
        Check.due("it has grown", x.lastDay(0, 1), 31);
        Check.due("another kind has not", x.lastDay(0, 0), 39);
        Check.due("valid on the day 31", x.reason(1, 0, 0), Ferryroster.FITS);
        Check.due("not valid on the day 32", x.reason(2, 0, 0), Ferryroster.NO_CERTIFICATE);
        Ferryroster y = new Ferryroster();
        y.addPerson();
        y.grant(0, 1, 60);
        for (int course = 0; course < 3; course++) {
            y.enroll(0, 1, 2 * course + 1, 1);
            y.pass(48);
        }
        Check.due("three courses", y.lastDay(0, 1), 59 + 90);
    }

    // ---- ships and sailings

    /** "the hours from the start up to, but not including, the start plus the length" */
    private static void hoursOfASailing() {
        Ferryroster x = with(1);
        x.addShip(0);
        Make.sail(x, 0, 10, 3, 0);
        int[] due = {0, 1, 1, 1, 0};
        for (int i = 0; i < due.length; i++) {
            Check.due("work in the hour " + (9 + i), x.work(0, 9 + i, 10 + i), due[i]);
        }
        Ferryroster y = with(1);
        y.addShip(0);
        Make.sail(y, 0, 10, 1, 0);
        Check.due("an hour", y.work(0, 10, 11), 1);
        Check.due("only an hour", y.work(0, 0, 999), 1);
    }

    /** "Each post ... is open or has a person, no person more than one post." */
    private static void nobodyHasTwoPosts() {
        Ferryroster x = with(1);
        Make.ship(x, 0, 0, 0);
        Make.sail(x, 0, 5, 2, 0);
        for (int post = 0; post < 3; post++) {
            int on = post;
            Check.fails("the post " + post + " for person 0", Check.ARGUMENT, () -> x.assign(0, on, 0));
        }
        x.release(0, 0);
        Check.due("another post, when the first one is open", x.assign(0, 2, 0), -1);
        Check.fails("and not the first one, too", Check.ARGUMENT, () -> x.assign(0, 0, 0));
    }

    /** "When a sailing is cancelled, all its posts become open.": by a call, at its start, and by the relief. */
    private static void postsOpenWhenCancelled() {
        for (int way = 0; way < 3; way++) {
            Ferryroster x = with(3);
            Make.ship(x, 0, 0, 0);
            Make.sail(x, 0, 30, 4, 2, 0, 1);
            x.callSick(1, 2);
            if (way == 0) {
                x.cancel(0);
            } else if (way == 1) {
                x.pass(30);
            } else {
                x.relieveAll();
            }
            Check.due("cancelled in the way " + way, x.stateOf(0), 'c');
            for (int post = 0; post < 3; post++) {
                Check.due("the post " + post, x.personOn(0, post), -1);
                Check.due("no work of " + post, x.work(post, 0, 999), 0);
                Check.due("no work in a day of " + post, x.mostInDay(post), 0);
            }
            Check.due("no mean work", x.meanWork(), 0.0);
            Check.yes("sound", x.isSound());
        }
    }

    /** "A person works in the hours of all sailings on which the person has a post.": planned ones and sailed ones. */
    private static void workCounts() {
        Ferryroster x = with(1);
        x.addShip(0);
        Make.sail(x, 0, 5, 4, 0);
        Make.sail(x, 0, 20, 2, 0);
        Check.due("both planned", x.work(0, 0, 999), 6);
        x.pass(5);
        Check.due("one has sailed", x.work(0, 0, 999), 6);
        x.pass(10);
        Check.due("one has ended", x.work(0, 0, 999), 6);
        x.release(1, 0);
        Check.due("one is left", x.work(0, 0, 999), 4);
    }

    /** "the greatest number of hours that a person may work in 24 hours in a row, 14 at first" */
    private static void dayRuleAtFirst() {
        Ferryroster x = with(1);
        x.addShip(0);
        Make.sail(x, 0, 100, 12, 0);
        x.plan(0, 113, 2);
        Check.due("14 hours", x.reason(1, 0, 0), Ferryroster.FITS);
        x.cancel(1);
        x.plan(0, 113, 3);
        Check.due("15 hours", x.reason(2, 0, 0), Ferryroster.DAY_RULE);
        x.cancel(2);
        x.plan(0, 122, 12);
        Check.due("14 of 24 hours in the row from 98 or 110 on", x.reason(3, 0, 0), Ferryroster.FITS);
        x.cancel(3);
        x.plan(0, 121, 12);
        Check.due("15 of 24 hours in the row from 109 on", x.reason(4, 0, 0), Ferryroster.DAY_RULE);
    }

    /** "the week rule is the same for 168 hours in a row, 72 at first" */
    private static void weekRuleAtFirst() {
        Ferryroster x = with(1);
        x.addShip(0);
        for (int day = 0; day < 5; day++) {
            Make.sail(x, 0, 24 * day + 1, 12, 0);
        }
        Check.due("the sixth, 72 hours", x.assign(x.plan(0, 121, 12), 0, 0), -1);
        Check.due("72 hours in a week", x.mostInWeek(0), 72);
        x.plan(0, 168, 1);
        Check.due("73 in the hours 1 to 168", x.reason(6, 0, 0), Ferryroster.WEEK_RULE);
        x.plan(0, 169, 1);
        Check.due("72 in the hours 2 to 169", x.reason(7, 0, 0), Ferryroster.FITS);
    }

    // ---- fitting

    /** "no certificate of the kind that the post needs" */
    private static void certificateOfTheKindOfThePost() {
        for (int kind = 0; kind < 4; kind++) {
            Ferryroster x = new Ferryroster();
            x.addPerson();
            x.grant(0, kind, 10);
            Make.ship(x, 0, 1, 2);
            Make.ship(x, 3, 0);
            x.plan(0, 5, 1);
            x.plan(1, 5, 1);
            for (int needed = 0; needed < 4; needed++) {
                Check.due("kind " + kind + " for " + needed, x.reason(needed / 3, needed % 3, 0),
                        kind == needed ? Ferryroster.FITS : Ferryroster.NO_CERTIFICATE);
            }
        }
    }

    /** "valid on each day that has an hour of the sailing" */
    private static void certificateOnEachDay() {
        for (int days = 1; days < 5; days++) {
            Ferryroster x = new Ferryroster();
            x.addPerson();
            x.grant(0, 0, days);
            x.addShip(0);
            x.plan(0, 47, 2);
            Check.due("certificate for " + days + ", sailing on the days 1 and 2", x.reason(0, 0, 0),
                    days < 3 ? Ferryroster.NO_CERTIFICATE : Ferryroster.FITS);
        }
    }

    /** "SICK: the person is sick on one of these days." */
    private static void sickOnOneOfItsDays() {
        for (int days = 1; days < 5; days++) {
            Ferryroster x = with(1);
            x.addShip(0);
            x.plan(0, 47, 2);
            x.callSick(0, days);
            Check.due("sick for " + days + ", sailing on the days 1 and 2", x.reason(0, 0, 0),
                    days < 2 ? Ferryroster.FITS : Ferryroster.SICK);
        }
        Ferryroster y = with(1);
        y.addShip(0);
        y.callSick(0, 3);
        Make.hours(y, 45);
        y.plan(0, 47, 2);
        y.plan(0, 72, 1);
        Check.due("sick on both days", y.reason(0, 0, 0), Ferryroster.SICK);
        Check.due("sick on the day before", y.reason(1, 0, 0), Ferryroster.FITS);
    }

    /** "ON_COURSE: the person is on a course on one of these days." */
    private static void onACourseOnOneOfItsDays() {
        for (int day = 1; day < 5; day++) {
            Ferryroster x = with(1);
            x.addShip(0);
            x.plan(0, 71, 2);
            x.enroll(0, 1, day, 1);
            Check.due("course on the day " + day + ", sailing on the days 2 and 3", x.reason(0, 0, 0),
                    day == 2 || day == 3 ? Ferryroster.ON_COURSE : Ferryroster.FITS);
        }
    }

    /** "ELSEWHERE: the person works in one of the hours of the sailing." */
    private static void elsewhere() {
        int[] starts = {16, 16, 23, 24, 21, 19};
        int[] lengths = {4, 5, 2, 2, 1, 9};
        boolean[] due = {false, true, true, false, true, true};
        for (int i = 0; i < starts.length; i++) {
            Ferryroster x = with(1);
            Make.withoutRules(x);
            x.addShip(0);
            x.addShip(0);
            Make.sail(x, 0, 20, 4, 0);
            x.plan(1, starts[i], lengths[i]);
            Check.due(lengths[i] + " hours from " + starts[i], x.reason(1, 0, 0),
                    due[i] ? Ferryroster.ELSEWHERE : Ferryroster.FITS);
        }
    }

    /** On a later post of the other sailing, on a sailing with a lower or a higher number, planned or sailed. */
    private static void elsewhereWhereverThePostIs() {
        for (int post = 0; post < 3; post++) {
            Ferryroster x = with(3);
            Make.ship(x, 0, 1, 2);
            Make.ship(x, 3, 3, 3);
            x.plan(1, 20, 4);
            x.plan(0, 20, 4);
            x.plan(1, 30, 4);
            for (int each = 0; each < 3; each++) {
                x.assign(1, each, (each + post) % 3);
            }
            Check.due("on the post of a later sailing", x.reason(0, post, 0), Ferryroster.ELSEWHERE);
            x.pass(19);
            x.plan(1, 24, 2);
            Check.due("after the sailing", x.reason(3, post, 0), Ferryroster.FITS);
        }
        Ferryroster y = with(1);
        y.addShip(0);
        y.addShip(0);
        Make.sail(y, 0, 5, 12, 0);
        y.pass(5);
        y.plan(1, 16, 1);
        Check.due("still on one that has sailed", y.reason(1, 0, 0), Ferryroster.ELSEWHERE);
        y.plan(1, 17, 1);
        Check.due("not any more", y.reason(2, 0, 0), Ferryroster.FITS);
    }

    /** "24 hours in a row, with at least one hour of the sailing among them" */
    private static void rowsOfADay() {
        int[] starts = {176, 177, 199, 201, 223, 224};
        boolean[] due = {false, true, true, true, true, false};
        for (int i = 0; i < starts.length; i++) {
            Ferryroster x = with(1);
            x.addShip(0);
            Make.sail(x, 0, 200, 1, 0);
            x.setDayRule(1);
            x.plan(0, starts[i], 1);
            Check.due("the hours 200 and " + starts[i], x.reason(1, 0, 0),
                    due[i] ? Ferryroster.DAY_RULE : Ferryroster.FITS);
            x.setDayRule(2);
            Check.due("two hours in a day", x.reason(1, 0, 0), Ferryroster.FITS);
        }
    }

    private static void rowsOfAWeek() {
        int[] starts = {232, 233, 399, 401, 567, 568};
        boolean[] due = {false, true, true, true, true, false};
        for (int i = 0; i < starts.length; i++) {
            Ferryroster x = with(1);
            x.addShip(0);
            Make.sail(x, 0, 400, 1, 0);
            x.setWeekRule(1);
            x.plan(0, starts[i], 1);
            Check.due("the hours 400 and " + starts[i], x.reason(1, 0, 0),
                    due[i] ? Ferryroster.WEEK_RULE : Ferryroster.FITS);
            x.setWeekRule(2);
            Check.due("two hours in a week", x.reason(1, 0, 0), Ferryroster.FITS);
        }
    }

    /** The two hours 500 and 501 and another one: just the rows that have all three of them are too much. */
    private static void rowsOverASailing() {
        int[] days = {477, 478, 523, 524};
        int[] weeks = {333, 334, 667, 668};
        boolean[] due = {false, true, true, false};
        for (int i = 0; i < due.length; i++) {
            Ferryroster x = with(1);
            x.addShip(0);
            Make.sail(x, 0, days[i], 1, 0);
            x.setDayRule(2);
            x.plan(0, 500, 2);
            Check.due("in a day with " + days[i], x.reason(1, 0, 0),
                    due[i] ? Ferryroster.DAY_RULE : Ferryroster.FITS);
            Ferryroster y = with(1);
            y.addShip(0);
            Make.sail(y, 0, weeks[i], 1, 0);
            y.setWeekRule(2);
            y.plan(0, 500, 2);
            Check.due("in a week with " + weeks[i], y.reason(1, 0, 0),
                    due[i] ? Ferryroster.WEEK_RULE : Ferryroster.FITS);
        }
    }

    /** A row in which the person works too much, but without an hour of the sailing, is no reason. */
    private static void rowsWithoutTheSailing() {
        int[] starts = {76, 77, 124, 125};
        boolean[] due = {false, true, true, false};
        for (int i = 0; i < starts.length; i++) {
            Ferryroster x = with(1);
            x.addShip(0);
            Make.sail(x, 0, 100, 2, 0);
            x.setDayRule(1);
            x.plan(0, starts[i], 1);
            Check.due("the hour " + starts[i] + ", with 100 and 101", x.reason(1, 0, 0),
                    due[i] ? Ferryroster.DAY_RULE : Ferryroster.FITS);
            Check.due("which are too many by themselves", x.reason(0, 0, 0), Ferryroster.DAY_RULE);
        }
        Ferryroster y = with(1);
        y.addShip(0);
        Make.sail(y, 0, 400, 2, 0);
        y.setWeekRule(1);
        y.plan(0, 569, 1);
        y.plan(0, 568, 1);
        y.plan(0, 233, 1);
        y.plan(0, 232, 1);
        Check.due("168 hours after 401", y.reason(1, 0, 0), Ferryroster.FITS);
        Check.due("167 hours after 401", y.reason(2, 0, 0), Ferryroster.WEEK_RULE);
        Check.due("167 hours before 400", y.reason(3, 0, 0), Ferryroster.WEEK_RULE);
        Check.due("168 hours before 400", y.reason(4, 0, 0), Ferryroster.FITS);
    }

    /** "Hours less than 0 or greater than 999 are hours without work." */
    private static void rowsThatReachOutOfTime() {
        Ferryroster x = with(1);
        x.addShip(0);
        Make.sail(x, 0, 1, 1, 0);
        x.setDayRule(1);
        Check.due("rows from -22 on", x.reason(0, 0, 0), Ferryroster.FITS);
        x.plan(0, 24, 1);
        Check.due("the hours 1 and 24", x.reason(1, 0, 0), Ferryroster.DAY_RULE);
        x.plan(0, 25, 1);
        Check.due("the hours 1 and 25", x.reason(2, 0, 0), Ferryroster.FITS);
        Ferryroster y = new Ferryroster();
        y.addPerson();
        y.addShip(0);
        Make.days(y, 30);
        y.grant(0, 0, 60);
        Make.sail(y, 0, 998, 1, 0);
        y.setDayRule(1);
        Check.due("rows up to 1021", y.reason(0, 0, 0), Ferryroster.FITS);
        y.plan(0, 975, 1);
        Check.due("the hours 975 and 998", y.reason(1, 0, 0), Ferryroster.DAY_RULE);
        y.plan(0, 974, 1);
        Check.due("the hours 974 and 998", y.reason(2, 0, 0), Ferryroster.FITS);
        y.setWeekRule(1);
        y.plan(0, 831, 1);
        Check.due("the hours 831 and 998", y.reason(3, 0, 0), Ferryroster.WEEK_RULE);
        y.plan(0, 830, 1);
        Check.due("the hours 830 and 998", y.reason(4, 0, 0), Ferryroster.FITS);
    }

    /** With rules of 24 and 168 hours, a person may work without end; with an hour less, for no longer than that. */
    private static void greatestRules() {
        Ferryroster x = with(1);
        Make.withoutRules(x);
        x.addShip(0);
        for (int i = 0; i < 15; i++) {
            Make.sail(x, 0, 1 + 12 * i, 12, 0);
        }
        Check.due("180 hours", x.work(0, 0, 999), 180);
        Check.yes("complete", x.isComplete(14));
        x.setWeekRule(167);
        Check.due("168 hours are too many", x.reason(14, 0, 0), Ferryroster.WEEK_RULE);
        x.setDayRule(23);
        Check.due("24 hours are too many", x.reason(14, 0, 0), Ferryroster.DAY_RULE);
        x.setDayRule(24);
        x.release(14, 0);
        Check.due("168 hours, with the other one", x.reason(14, 0, 0), Ferryroster.WEEK_RULE);
        x.cancel(14);
        x.plan(0, 170, 12);
        Check.due("an hour of rest", x.reason(15, 0, 0), Ferryroster.FITS);
    }

    private static void smallestRules() {
        Ferryroster x = with(1);
        x.addShip(0);
        x.plan(0, 50, 1);
        x.plan(0, 60, 2);
        x.setDayRule(1);
        Check.due("an hour", x.reason(0, 0, 0), Ferryroster.FITS);
        Check.due("two hours", x.reason(1, 0, 0), Ferryroster.DAY_RULE);
        x.setDayRule(24);
        x.setWeekRule(1);
        Check.due("an hour in a week", x.reason(0, 0, 0), Ferryroster.FITS);
        Check.due("two hours in a week", x.reason(1, 0, 0), Ferryroster.WEEK_RULE);
        x.setDayRule(12);
        x.plan(0, 100, 12);
        x.setWeekRule(12);
        Check.due("as long as both rules", x.reason(2, 0, 0), Ferryroster.FITS);
        x.setDayRule(11);
        Check.due("longer than the day rule", x.reason(2, 0, 0), Ferryroster.DAY_RULE);
        x.setDayRule(12);
        x.setWeekRule(11);
        Check.due("longer than the week rule", x.reason(2, 0, 0), Ferryroster.WEEK_RULE);
    }

    /** "all posts of this sailing are taken as open" */
    private static void ownPostsAreTakenAsOpen() {
        for (int post = 0; post < 3; post++) {
            Ferryroster x = with(1);
            Make.ship(x, 0, 1, 2);
            x.plan(0, 30, 8);
            x.assign(0, post, 0);
            x.setDayRule(8);
            x.setWeekRule(8);
            for (int each = 0; each < 3; each++) {
                Check.due("on " + post + ", for " + each, x.reason(0, each, 0), Ferryroster.FITS);
                Check.due("fitting for " + each, x.fitting(0, each), 1);
            }
            x.setDayRule(7);
            Check.due("the hours of this sailing count once", x.reason(0, post, 0), Ferryroster.DAY_RULE);
        }
    }

    /** The reasons two by two: the first one in the order of Fitting is told. */
    private static void firstReason() {
        for (int first = 1; first < 7; first++) {
            for (int second = first; second < 7; second++) {
                Ferryroster x = withReasons(first, second);
                Check.due("of " + first + " and " + second, x.reason(x.sailings('p') - 1, 0, 0), first);
            }
        }
    }

    private static Ferryroster withReasons(int... reasons) {
        Ferryroster x = new Ferryroster();
        x.addPerson();
        x.grant(0, 1, 60);
        x.addShip(0);
        x.addShip(1);
        x.addShip(1);
        Make.sail(x, 2, 40, 2, 0);
        boolean[] has = new boolean[7];
        for (int reason : reasons) {
            has[reason] = true;
        }
        if (has[Ferryroster.ELSEWHERE]) {
            Make.sail(x, 1, 33, 1, 0);
        }
        x.plan(0, 30, 4);
        if (!has[Ferryroster.NO_CERTIFICATE]) {
            x.grant(0, 0, 2);
        }
        if (has[Ferryroster.SICK]) {
            x.callSick(0, 2);
        }
        if (has[Ferryroster.ON_COURSE]) {
            x.enroll(0, 3, 1, 1);
        }
        x.setDayRule(has[Ferryroster.DAY_RULE] ? 5 : 24);
        x.setWeekRule(has[Ferryroster.WEEK_RULE] ? 5 : 168);
        return x;
    }

    /** "A planned sailing is complete if each post has a person, and each of them fits the post." */
    private static void complete() {
        for (int open = -1; open < 3; open++) {
            Ferryroster x = with(3);
            Make.ship(x, 0, 1, 2);
            Make.sail(x, 0, 30, 4, 0, 1, 2);
            Check.yes("all three", x.isComplete(0));
            if (open >= 0) {
                x.callSick(open, 2);
                Check.no("the person on " + open + " is sick", x.isComplete(0));
                x.recover(open);
                x.release(0, open);
                Check.no("the post " + open + " is open", x.isComplete(0));
            }
            Check.due("short", x.shortSailings(), open < 0 ? 0 : 1);
        }
    }

    // ---- hours that pass

    /** "the planned sailings that start in this hour are looked at" */
    private static void startsAreLookedAt() {
        Ferryroster x = with(1);
        x.addShip(0);
        x.addShip(0);
        Make.sail(x, 0, 10, 2, 0);
        x.plan(1, 10, 2);
        Check.due("the hour before", x.pass(9), 0);
        Check.due("planned", x.sailings('p'), 2);
        Check.due("this hour", x.pass(1), 1);
        Check.due("the complete one", x.stateOf(0), 's');
        Check.due("the other one", x.stateOf(1), 'c');
        x.callSick(0, 1);
        Check.due("the hours after", x.pass(5), 0);
        Check.due("what has sailed stays so", x.stateOf(0), 's');
        Check.due("and keeps its crew", x.personOn(0, 0), 0);
        Make.sail(x, 0, 41, 2, 0);
        x.plan(0, 43, 2);
        x.cancel(3);
        Check.due("those cancelled before do not count", x.pass(48), 0);
        Check.due("cancelled", x.stateOf(3), 'c');
    }

    /** "each one that is complete sails, and each other one is cancelled": one for each way to be incomplete. */
    private static void eachIncompleteOneIsCancelled() {
        for (int way = 0; way < 6; way++) {
            Ferryroster x = with(2);
            Make.ship(x, 0, 1);
            Make.sail(x, 0, 30, 4, 0, 1);
            if (way == 1) {
                x.release(0, 1);
            } else if (way == 2) {
                x.callSick(1, 2);
            } else if (way == 3) {
                x.enroll(1, 3, 1, 1);
            } else if (way == 4) {
                x.setDayRule(3);
            } else if (way == 5) {
                x.setWeekRule(3);
            }
            Check.due("in the way " + way, x.pass(30), way == 0 ? 0 : 1);
            Check.due("the state in the way " + way, x.stateOf(0), way == 0 ? 's' : 'c');
        }
    }

    /** "If it is the first hour of a day, the courses of which the day before was the last day are over first." */
    private static void coursesAreOverFirst() {
        Ferryroster x = with(2);
        x.addShip(0);
        x.enroll(0, 0, 1, 2);
        x.enroll(1, 0, 1, 3);
        Make.sail(x, 0, 72, 1, 0);
        Make.sail(x, 0, 73, 1, 0);
        Check.due("on no course on the day 3", x.reason(0, 0, 0), Ferryroster.FITS);
        Check.due("on a course on the day 3", x.reason(0, 0, 1), Ferryroster.ON_COURSE);
        Make.hours(x, 71);
        Check.due("not over in the hour 71", x.lastDay(0, 0), 59);
        Check.due("sails in the hour 72", x.pass(1), 0);
        Check.due("over in the hour 72", x.lastDay(0, 0), 89);
        Check.due("the other one is not", x.lastDay(1, 0), 59);
        x.pass(23);
        Check.due("nor at the end of the day", x.lastDay(1, 0), 59);
        x.pass(1);
        Check.due("but on the next one", x.lastDay(1, 0), 89);
        Check.due("the first one has not grown again", x.lastDay(0, 0), 89);
    }

    /** "Lets hours pass, one after the other.": two days at once come to the same as 48 times an hour. */
    private static void hoursPassOneAfterTheOther() {
        Twin.Making begin = x -> {
            Make.people(x, 3);
            Make.ship(x, 0, 1);
            Make.ship(x, 0);
            Make.sail(x, 0, 20, 6, 0, 2);
            Make.sail(x, 0, 30, 6, 0, 1);
            Make.sail(x, 1, 30, 2);
            Make.sail(x, 1, 46, 2, 1);
            Make.sail(x, 1, 48, 2, 2);
            Make.sail(x, 0, 49, 4, 0, 1);
            x.enroll(2, 3, 1, 1);
            x.callSick(1, 1);
        };
        Twin.answers("two are cancelled", 2, begin, x -> x.pass(48));
        Twin.same("48 hours", x -> {
            begin.make(x);
            x.pass(48);
        }, x -> {
            begin.make(x);
            for (int i = 0; i < 48; i++) {
                x.pass(1);
            }
        });
    }

    /** A sailing that is cancelled at its start sets its people free for those that start an hour later. */
    private static void cancelledAtItsStartSetsFree() {
        int[][] crews = {{0}, {0, 1}};
        for (int[] crew : crews) {
            Ferryroster x = with(2);
            Make.ship(x, 0, 0);
            Make.ship(x, 0);
            Make.sail(x, 0, 30, 2, crew);
            Make.sail(x, 1, 32, 4, 0);
            x.setDayRule(5);
            Check.no("too much work with both", x.isComplete(1));
            Check.due("with a crew of " + crew.length, x.pass(48), 1);
            // With a rule of 5 hours neither is complete at first: the one that starts first is cancelled.
            Check.due("the first one", x.stateOf(0), 'c');
            Check.due("the second one", x.stateOf(1), 's');
        }
    }
}
