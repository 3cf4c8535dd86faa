/** Each other sentence of the promises that names a boundary case, in the order of the promises. */
public final class AnswerTest {
    public static void main(String[] args) {
        passCountsTheCancelled();
        rulesBefore();
        peopleStayOnTheirPosts();
        personsWithoutCertificates();
        grantAnswers();
        renewAnswers();
        lastDayAnswers();
        sickDaysAreAdded();
        sickDaysBeyondTheLast();
        sailingsOfTheSick();
        sailingsOfTheSickAtTheEnds();
        recoverAnswers();
        recoverOnTheLastDay();
        enrollAnswers();
        leaveCourseAnswers();
        leaveCourseGivesNoCertificate();
        isAwayAnswers();
        shipsAndPosts();
        plannedWithAllPostsOpen();
        assignAnswers();
        releaseAnswers();
        cancelAnswers();
        fittingAnswers();
        workBetweenTwoHours();
        mostWithoutWork();
        mostInRowsOfADay();
        mostInRowsOfAWeek();
        mostAtTheEndsOfTime();
        mostWithAllHoursWorked();
        mostIsFoundAtAnEnd();
        nextStartIsLater();
        nextStartBesideOthers();
        nextStartKeepsTheDayRule();
        nextStartKeepsTheWeekRule();
        nextStartWithoutAnHour();
        nextStartWhateverThePersonIs();
        workShareAnswers();
        meanWorkAnswers();
        questionsChangeNothing();
        Check.end("AnswerTest");
    }

    private static Ferryroster with(int people) {
        Ferryroster x = new Ferryroster();
        Make.people(x, people);
        Make.withoutRules(x);
        Make.ship(x, 0);
        Make.ship(x, 0);
        return x;
    }

    // ---- promises 2 to 5

    /** "Returns the number of sailings that are cancelled by this.": not those before, nor those that sail. */
    private static void passCountsTheCancelled() {
        Ferryroster x = with(1);
        Make.sail(x, 0, 5, 1, 0);
        x.plan(1, 5, 1);
        x.plan(0, 6, 1);
        x.plan(1, 7, 1);
        x.plan(0, 8, 1);
        x.cancel(4);
        Check.due("none", x.pass(4), 0);
        Check.due("one of two", x.pass(1), 1);
        Check.due("two, and not the one cancelled before", x.pass(3), 2);
        Check.due("none any more", x.pass(48), 0);
    }

    /** "Returns the day rule before the call.", and the week rule */
    private static void rulesBefore() {
        Ferryroster x = new Ferryroster();
        int[] dayRules = {1, 24, 24, 7, 14};
        int[] weekRules = {1, 168, 168, 7, 72};
        int day = 14;
        int week = 72;
        for (int i = 0; i < dayRules.length; i++) {
            Check.due("the day rule before", x.setDayRule(dayRules[i]), day);
            Check.due("the week rule before", x.setWeekRule(weekRules[i]), week);
            day = dayRules[i];
            week = weekRules[i];
        }
    }

    /** "Sets the day rule. People stay on their posts.", and the week rule */
    private static void peopleStayOnTheirPosts() {
        for (int rule = 0; rule < 2; rule++) {
            Ferryroster x = with(1);
            Make.sail(x, 0, 20, 8, 0);
            Check.yes("complete", x.isComplete(0));
            if (rule == 0) {
                x.setDayRule(7);
            } else {
                x.setWeekRule(7);
            }
            Check.due("on the post", x.personOn(0, 0), 0);
            Check.due("works", x.work(0, 0, 999), 8);
            Check.no("not complete", x.isComplete(0));
            Make.withoutRules(x);
            Check.yes("complete again", x.isComplete(0));
        }
    }

    // ---- promises 6 to 14

    /** "Adds a person without certificates.": the first and the last one */
    private static void personsWithoutCertificates() {
        Ferryroster x = new Ferryroster();
        for (int person = 0; person < 8; person++) {
            int each = person;
            Check.due("the number", x.addPerson(), person);
            for (int kind = 0; kind < 4; kind++) {
                int of = kind;
                Check.fails("no certificate of " + person, Check.MISSING, () -> x.lastDay(each, of));
            }
            Check.no("not away on the day 0", x.isAway(person, 0));
            Check.no("not away on the day 41", x.isAway(person, 41));
            Check.fails("not sick", Check.STATE, () -> x.recover(each));
            Check.fails("without a course", Check.STATE, () -> x.leaveCourse(each));
            Check.due("no work", x.work(person, 0, 999), 0);
        }
    }

    /** "its first day is the present day"; "Returns its last day." */
    private static void grantAnswers() {
        int[] hours = {0, 23, 24, 999};
        int[] today = {0, 0, 1, 41};
        for (int i = 0; i < hours.length; i++) {
            Ferryroster x = new Ferryroster();
            x.addPerson();
            Make.hours(x, hours[i]);
            Check.due("a day in the hour " + hours[i], x.grant(0, 0, 1), today[i]);
            Check.due("its last day", x.lastDay(0, 0), today[i]);
            Check.due("60 days in the hour " + hours[i], x.grant(0, 3, 60), today[i] + 59);
            Check.due("its last day", x.lastDay(0, 3), today[i] + 59);
        }
    }

    /** "its last day becomes later"; "Returns its last day after the call." */
    private static void renewAnswers() {
        Ferryroster x = new Ferryroster();
        x.addPerson();
        x.addShip(0);
        x.grant(0, 0, 1);
        x.plan(0, 24, 1);
        x.plan(0, 48, 1);
        Check.due("by a day", x.renew(0, 0, 1), 1);
        Check.due("the last day", x.lastDay(0, 0), 1);
        Check.due("valid on the day 1", x.reason(0, 0, 0), Ferryroster.FITS);
        Check.due("not on the day 2", x.reason(1, 0, 0), Ferryroster.NO_CERTIFICATE);
        Check.due("by 60 days", x.renew(0, 0, 60), 61);
        Check.due("valid on the day 2", x.reason(1, 0, 0), Ferryroster.FITS);
        Check.fails("61 is far", Check.STATE, () -> x.renew(0, 0, 1));
    }

    /** "also of one that has ended"; "which can be greater than 41" */
    private static void lastDayAnswers() {
        Ferryroster x = new Ferryroster();
        x.addPerson();
        x.grant(0, 0, 1);
        x.grant(0, 1, 42);
        x.grant(0, 2, 43);
        x.grant(0, 3, 60);
        int[] due = {0, 41, 42, 59};
        for (int days = 0; days < 41; days += 40) {
            Make.days(x, days);
            for (int kind = 0; kind < 4; kind++) {
                Check.due("on the day " + days + " of kind " + kind, x.lastDay(0, kind), due[kind]);
            }
        }
    }

    /** "days on which the person is sick already stay so" */
    private static void sickDaysAreAdded() {
        Ferryroster x = with(2);
        x.callSick(0, 5);
        x.callSick(0, 2);
        Check.due("five days still", x.recover(0), 5);
        x.callSick(0, 2);
        x.callSick(0, 5);
        Check.due("five days now", x.recover(0), 5);
        x.callSick(0, 3);
        x.pass(48);
        x.callSick(0, 2);
        boolean[] due = {true, true, true, true, false};
        for (int day = 0; day < due.length; day++) {
            Check.due("away on the day " + day, x.isAway(0, day), due[day]);
        }
    }

    /** "days greater than 41 are left out" */
    private static void sickDaysBeyondTheLast() {
        for (int today = 21; today < 42; today++) {
            Ferryroster x = new Ferryroster();
            x.addPerson();
            Make.days(x, today);
            x.callSick(0, 20);
            Check.due("away on the day 41", x.isAway(0, 41), today > 21);
            Check.no("not away on the day before", x.isAway(0, today - 1));
            Check.due("from the day " + today + " on", x.recover(0), Math.min(20, 42 - today));
        }
    }

    /** "the number of planned sailings with an hour on one of these days on which the person has a post" */
    private static void sailingsOfTheSick() {
        Ferryroster x = with(2);
        Make.ship(x, 0, 0);
        x.pass(1);
        Check.due("none", x.callSick(0, 20), 0);
        x.recover(0);
        Make.sail(x, 0, 5, 1, 0);
        Make.sail(x, 1, 6, 1, 0);
        Make.sail(x, 0, 20, 1, 1);
        Make.sail(x, 2, 21, 1, 1, 0);
        x.plan(1, 22, 1);
        Check.due("three of person 0", x.callSick(0, 1), 3);
        Check.due("again", x.callSick(0, 1), 3);
        x.recover(0);
        x.cancel(1);
        Check.due("without the cancelled one", x.callSick(0, 1), 2);
        x.recover(0);
        x.pass(4);
        Check.due("one has sailed", x.stateOf(0), 's');
        Check.due("without the one that has sailed", x.callSick(0, 1), 1);
        x.release(3, 1);
        Check.due("without the one that the person has left", x.callSick(0, 20), 0);
        Check.due("two of person 1", x.callSick(1, 20), 2);
    }

    /** The last hour before and the first hour on the first day that is not one of these, also over midnight. */
    private static void sailingsOfTheSickAtTheEnds() {
        int[] starts = {95, 96, 94, 90};
        int[] lengths = {1, 1, 4, 12};
        int[] due = {1, 0, 1, 1};
        for (int i = 0; i < starts.length; i++) {
            Ferryroster x = with(1);
            Make.days(x, 1);
            Make.sail(x, 0, starts[i], lengths[i], 0);
            Check.due("sick up to the day 3: " + lengths[i] + " hours from " + starts[i], x.callSick(0, 3), due[i]);
        }
        Ferryroster y = with(1);
        Make.days(y, 1);
        Make.sail(y, 0, 25, 1, 0);
        Make.sail(y, 0, 47, 2, 0);
        Check.due("on the present day", y.callSick(0, 1), 2);
        Make.days(y, 30);
        Make.sail(y, 0, 987, 12, 0);
        Check.due("on the day 41", y.callSick(0, 20), 1);
        Check.due("not on the day 41", y.callSick(0, 1), 0);
    }

    /** "not sick on the present day and on all later days"; "the number of these days on which the person was sick" */
    private static void recoverAnswers() {
        for (int today = 0; today < 4; today++) {
            Ferryroster x = with(2);
            x.callSick(0, 4);
            x.callSick(1, 4);
            Make.hours(x, 24 * today + 23);
            Check.due("on the day " + today + " of 0 to 3", x.recover(0), 4 - today);
            for (int day = 0; day < 5; day++) {
                Check.due("away on the day " + day, x.isAway(0, day), day < today);
                Check.due("the other one", x.isAway(1, day), day < 4);
            }
        }
    }

    private static void recoverOnTheLastDay() {
        Ferryroster x = with(1);
        Make.days(x, 40);
        x.callSick(0, 20);
        x.pass(24);
        Check.due("the day 41", x.recover(0), 1);
        Check.yes("was sick on the day 40", x.isAway(0, 40));
        Check.no("is well on the day 41", x.isAway(0, 41));
    }

    /** "Returns the last day of the course." */
    private static void enrollAnswers() {
        Check.due("the next day alone", with(1).enroll(0, 0, 1, 1), 1);
        Check.due("ten days", with(1).enroll(0, 3, 1, 10), 10);
        Check.due("ten days up to the day 41", with(1).enroll(0, 0, 32, 10), 41);
        Check.due("the day 41 alone", with(1).enroll(0, 0, 41, 1), 41);
        Ferryroster x = with(1);
        Make.days(x, 40);
        Check.due("on the day 40", x.enroll(0, 0, 41, 1), 41);
    }

    /** "not on it on the present day and on all later days"; "the number of these days on which the person was" */
    private static void leaveCourseAnswers() {
        int[] due = {3, 3, 3, 2, 1};
        for (int today = 0; today < due.length; today++) {
            Ferryroster x = with(2);
            x.enroll(0, 0, 2, 3);
            x.enroll(1, 0, 2, 3);
            Make.hours(x, 24 * today + 23);
            Check.due("on the day " + today + ", a course from 2 to 4", x.leaveCourse(0), due[today]);
            for (int day = 0; day < 6; day++) {
                Check.due("away on the day " + day, x.isAway(0, day), day >= 2 && day < today);
                Check.due("the other one", x.isAway(1, day), day >= 2 && day <= 4);
            }
        }
    }

    /** "and gets no certificate" */
    private static void leaveCourseGivesNoCertificate() {
        Ferryroster x = new Ferryroster();
        x.addPerson();
        x.addPerson();
        x.grant(1, 0, 60);
        x.enroll(0, 0, 1, 2);
        x.enroll(1, 0, 1, 2);
        Make.hours(x, 71);
        x.leaveCourse(0);
        x.leaveCourse(1);
        Make.days(x, 2);
        Check.fails("none", Check.MISSING, () -> x.lastDay(0, 0));
        Check.due("it has not grown", x.lastDay(1, 0), 59);
    }

    /** "whether a person is sick or on a course on a day" */
    private static void isAwayAnswers() {
        Ferryroster x = with(1);
        x.callSick(0, 3);
        x.enroll(0, 0, 2, 2);
        boolean[] due = {true, true, true, true, false};
        for (int day = 0; day < due.length; day++) {
            Check.due("on the day " + day, x.isAway(0, day), due[day]);
        }
        x.recover(0);
        Check.no("well, before the course", x.isAway(0, 1));
        Check.yes("well, but on the course", x.isAway(0, 2));
        x.callSick(0, 3);
        x.leaveCourse(0);
        Check.yes("without the course, but sick", x.isAway(0, 2));
        Check.no("neither", x.isAway(0, 3));
    }

    // ---- promises 15 to 20, and 27

    /** "Adds a ship with one post."; "Returns the number of posts after the call." */
    private static void shipsAndPosts() {
        Ferryroster x = new Ferryroster();
        for (int ship = 0; ship < 4; ship++) {
            Check.due("the number of the ship", x.addShip(3 - ship), ship);
            for (int posts = 2; posts <= 3 && posts <= ship + 1; posts++) {
                Check.due("the number of posts", x.addPost(ship, posts), posts);
            }
        }
        int[] posts = {1, 2, 3, 3};
        for (int ship = 0; ship < 4; ship++) {
            int sailing = x.plan(ship, 5, 1);
            int last = posts[ship] - 1;
            Check.due("the last post", x.personOn(sailing, last), -1);
            Check.fails("no post after it", Check.BOUNDS, () -> x.personOn(sailing, last + 1));
        }
    }

    /** "Plans a sailing, with all posts open."; "Returns the number of the sailing." */
    private static void plannedWithAllPostsOpen() {
        Ferryroster x = with(3);
        Make.ship(x, 0, 1, 2);
        Make.sail(x, 2, 10, 2, 0, 1, 2);
        Check.due("the number", x.plan(2, 12, 2), 1);
        for (int post = 0; post < 3; post++) {
            Check.due("open", x.personOn(1, post), -1);
        }
        x.cancel(0);
        Check.due("the next number, after a cancelled one", x.plan(2, 10, 2), 2);
        Check.due("open, too", x.personOn(2, 0), -1);
        Check.due("planned", x.stateOf(2), 'p');
    }

    /** "in place of the one who has it"; "Returns the person who had the post, or NONE." */
    private static void assignAnswers() {
        Ferryroster x = with(8);
        Make.ship(x, 0, 1, 2);
        x.plan(2, 10, 2);
        Check.due("nobody on the post 2", x.assign(0, 2, 0), -1);
        for (int person = 1; person < 8; person++) {
            Check.due("the one before", x.assign(0, 2, person), person - 1);
            Check.due("on the post", x.personOn(0, 2), person);
            Check.due("works", x.work(person, 0, 999), 2);
            Check.due("does not work any more", x.work(person - 1, 0, 999), 0);
        }
        Check.due("the post 0 is open", x.personOn(0, 0), -1);
        Check.due("the one who was there can come again", x.assign(0, 2, 0), 7);
    }

    /** "Returns the person who had the post." */
    private static void releaseAnswers() {
        Ferryroster x = with(3);
        Make.ship(x, 0, 1, 2);
        Make.sail(x, 2, 10, 2, 2, 0, 1);
        int[] people = {2, 0, 1};
        for (int post = 2; post >= 0; post--) {
            int open = post;
            Check.due("the person of " + post, x.release(0, post), people[post]);
            Check.due("open", x.personOn(0, post), -1);
            Check.due("no work", x.work(people[post], 0, 999), 0);
            Check.fails("open already", Check.STATE, () -> x.release(0, open));
        }
        Check.due("planned still", x.stateOf(0), 'p');
    }

    /** "Returns the number of people who had posts.": 0 to 3 */
    private static void cancelAnswers() {
        for (int people = 0; people < 4; people++) {
            for (int first = 0; first <= 3 - people; first++) {
                Ferryroster x = with(3);
                Make.ship(x, 0, 1, 2);
                x.plan(2, 10, 2);
                for (int post = first; post < first + people; post++) {
                    x.assign(0, post, post);
                }
                Check.due(people + " people from the post " + first + " on", x.cancel(0), people);
                Check.due("cancelled", x.stateOf(0), 'c');
            }
        }
    }

    /** "Returns the number of people who fit a post": 0 to 8 */
    private static void fittingAnswers() {
        Ferryroster x = new Ferryroster();
        Make.ship(x, 1, 2);
        x.plan(0, 5, 1);
        for (int people = 0; people <= 8; people++) {
            Check.due("the post 1 of kind 2", x.fitting(0, 1), people);
            Check.due("the post 0 of kind 1", x.fitting(0, 0), 0);
            if (people < 8) {
                x.addPerson();
                x.grant(people, 2, 1);
            }
        }
        for (int sick = 1; sick <= 8; sick++) {
            x.callSick(8 - sick, 1);
            Check.due("without the sick", x.fitting(0, 1), 8 - sick);
        }
    }

    // ---- promises 30 to 38

    /** "from one hour up to, but not including, another one" */
    private static void workBetweenTwoHours() {
        Ferryroster x = with(2);
        Make.sail(x, 0, 10, 3, 0);
        Make.sail(x, 0, 998, 1, 1);
        int[] from = {9, 10, 9, 10, 12, 13, 11, 0, 0, 0};
        int[] to = {10, 11, 13, 13, 13, 14, 12, 10, 11, 999};
        int[] due = {0, 1, 3, 3, 1, 0, 1, 0, 1, 3};
        for (int i = 0; i < from.length; i++) {
            Check.due("from " + from[i] + " to " + to[i], x.work(0, from[i], to[i]), due[i]);
        }
        Check.due("the last hour of all", x.work(1, 998, 999), 1);
        Check.due("not the last hour of all", x.work(1, 0, 998), 0);
    }

    private static void most(String what, Ferryroster x, int day, int week) {
        Check.due("in a day: " + what, x.mostInDay(0), day);
        Check.due("in a day by hours: " + what, x.mostInDayByHours(0), day);
        Check.due("in a week: " + what, x.mostInWeek(0), week);
        Check.due("in a week by hours: " + what, x.mostInWeekByHours(0), week);
        Check.yes("sound: " + what, x.isSound());
    }

    private static void mostWithoutWork() {
        Ferryroster x = with(2);
        most("no sailings", x, 0, 0);
        Make.sail(x, 0, 5, 3, 1);
        most("sailings of another person", x, 0, 0);
        Make.sail(x, 0, 50, 3, 0);
        x.cancel(1);
        most("a cancelled one", x, 0, 0);
        Make.sail(x, 0, 50, 1, 0);
        most("an hour", x, 1, 1);
    }

    /** "in 24 hours in a row": the two hours are the first and the last of them, or one is outside. */
    private static void mostInRowsOfADay() {
        for (int apart = 22; apart < 26; apart++) {
            for (int order = 0; order < 2; order++) {
                Ferryroster x = with(1);
                Make.sail(x, 0, order == 0 ? 100 : 100 + apart, 1, 0);
                Make.sail(x, 1, order == 0 ? 100 + apart : 100, 1, 0);
                most(apart + " hours apart", x, apart < 24 ? 2 : 1, 2);
            }
        }
    }

    private static void mostInRowsOfAWeek() {
        for (int apart = 166; apart < 170; apart++) {
            Ferryroster x = with(1);
            Make.sail(x, 0, 300, 1, 0);
            Make.sail(x, 1, 300 + apart, 1, 0);
            most(apart + " hours apart", x, 1, apart < 168 ? 2 : 1);
        }
    }

    /** The first hour of a sailing is 1 at least, and the last one is 998 at most. */
    private static void mostAtTheEndsOfTime() {
        Ferryroster x = with(1);
        Make.sail(x, 0, 1, 12, 0);
        most("from the hour 1 on", x, 12, 12);
        Ferryroster y = with(1);
        Make.sail(y, 0, 987, 12, 0);
        most("up to the hour 998", y, 12, 12);
        Make.sail(y, 0, 970, 10, 0);
        most("up to the hour 998, with an earlier one", y, 17, 22);
        Make.sail(y, 0, 1, 12, 0);
        most("at both ends", y, 17, 22);
    }

    /** Without rest: the most that there can be is 24 and 168. */
    private static void mostWithAllHoursWorked() {
        Ferryroster x = with(1);
        for (int i = 0; i < 16; i++) {
            Make.sail(x, 0, 10 + 12 * i, 12, 0);
            int hours = 12 * (i + 1);
            most(hours + " hours", x, Math.min(24, hours), Math.min(168, hours));
        }
    }

    /** The row with the most hours stops where the last sailing ends, or begins where the first one starts. */
    private static void mostIsFoundAtAnEnd() {
        Ferryroster x = with(1);
        Make.sail(x, 0, 100, 12, 0);
        Make.sail(x, 0, 118, 8, 0);
        most("the first one whole, six hours of the second one", x, 18, 20);
        Ferryroster y = with(1);
        Make.sail(y, 0, 100, 8, 0);
        Make.sail(y, 0, 114, 12, 0);
        most("six hours of the first one, the second one whole", y, 18, 20);
        Ferryroster z = with(1);
        Make.sail(z, 0, 100, 8, 0);
        Make.sail(z, 0, 110, 10, 0);
        Make.sail(z, 0, 122, 8, 0);
        most("parts of the first or of the third one", z, 20, 26);
    }

    /** "the first hour, later than the present one" */
    private static void nextStartIsLater() {
        int[] hours = {0, 1, 23, 500, 986};
        for (int hour : hours) {
            Ferryroster x = with(1);
            Make.hours(x, hour);
            Check.due("an hour after " + hour, x.nextStart(0, 1), hour + 1);
            Check.due("twelve hours after " + hour, x.nextStart(0, 12), hour + 1);
        }
    }

    /** Up to the start of another sailing, and from its end on. */
    private static void nextStartBesideOthers() {
        Ferryroster x = with(1);
        Make.sail(x, 0, 5, 3, 0);
        Make.sail(x, 0, 10, 12, 0);
        int[] due = {1, 1, 1, 1, 22, 22, 22, 22, 22, 22, 22, 22};
        for (int hours = 1; hours <= 12; hours++) {
            Check.due(hours + " hours", x.nextStart(0, hours), due[hours - 1]);
        }
        x.pass(4);
        Check.due("an hour, at 4", x.nextStart(0, 1), 8);
        Check.due("two hours, at 4", x.nextStart(0, 2), 8);
        Check.due("three hours, at 4", x.nextStart(0, 3), 22);
        x.pass(1);
        Check.due("during one that has sailed", x.nextStart(0, 1), 8);
        x.cancel(1);
        Check.due("without the cancelled one", x.nextStart(0, 3), 8);
    }

    private static void nextStartKeepsTheDayRule() {
        Ferryroster x = with(1);
        Make.sail(x, 0, 40, 6, 0);
        Make.hours(x, 30);
        x.setDayRule(8);
        Check.due("eight hours in a day", x.nextStart(0, 2), 31);
        Check.due("nine, but not in the row from 41 on", x.nextStart(0, 3), 62);
        x.setDayRule(6);
        Check.due("none beside the six", x.nextStart(0, 1), 64);
    }

    private static void nextStartKeepsTheWeekRule() {
        Ferryroster x = with(1);
        Make.sail(x, 0, 200, 6, 0);
        Make.hours(x, 190);
        x.setWeekRule(8);
        Check.due("eight hours in a week", x.nextStart(0, 2), 191);
        Check.due("nine, but not in the row from 201 on", x.nextStart(0, 3), 366);
        x.setWeekRule(6);
        Check.due("none beside the six", x.nextStart(0, 1), 368);
        x.pass(20);
        Check.due("it has sailed", x.stateOf(0), 's');
        Check.due("what has sailed counts", x.nextStart(0, 1), 368);
    }

    /** "if there is no such hour": a rule that is less than the length, whatever the hour is */
    private static void nextStartWithoutAnHour() {
        for (int hours = 2; hours <= 12; hours++) {
            int length = hours;
            Ferryroster x = with(1);
            x.setDayRule(hours);
            x.setWeekRule(hours);
            Check.due("as long as the rules: " + hours, x.nextStart(0, hours), 1);
            x.setDayRule(hours - 1);
            Check.fails("longer than the day rule: " + hours, Check.MISSING, () -> x.nextStart(0, length));
            x.setDayRule(24);
            x.setWeekRule(hours - 1);
            Check.fails("longer than the week rule: " + hours, Check.MISSING, () -> x.nextStart(0, length));
        }
    }

    /** "certificates, sickness and courses do not matter" */
    private static void nextStartWhateverThePersonIs() {
        Ferryroster x = new Ferryroster();
        x.addPerson();
        Check.due("without certificates", x.nextStart(0, 12), 1);
        x.callSick(0, 20);
        Check.due("sick", x.nextStart(0, 12), 1);
        x.enroll(0, 0, 1, 10);
        Make.hours(x, 30);
        Check.due("on a course", x.nextStart(0, 12), 31);
    }

    /** "the share of the hours before the present one": in the first hour of a sailing, and in the hour after it */
    private static void workShareAnswers() {
        Ferryroster x = with(2);
        Make.sail(x, 0, 1, 3, 0);
        x.pass(1);
        Check.due("of the hour 0", x.workShare(0), 0f / 1f);
        x.pass(1);
        Check.due("of two hours", x.workShare(0), 1f / 2f);
        x.pass(1);
        Check.due("of three hours", x.workShare(0), 2f / 3f);
        x.pass(1);
        Check.due("of four hours", x.workShare(0), 3f / 4f);
        x.pass(1);
        Check.due("of five hours", x.workShare(0), 3f / 5f);
        Make.sail(x, 0, 50, 3, 0);
        Check.due("planned work is later", x.workShare(0), 3f / 5f);
        Check.due("of another person", x.workShare(1), 0f);
        Make.hours(x, 994);
        Check.due("of all hours", x.workShare(0), 6f / 999f);
    }

    /** "the sum of the hours of all people divided by the number of people" */
    private static void meanWorkAnswers() {
        Ferryroster x = new Ferryroster();
        Make.people(x, 1);
        x.addShip(0);
        Check.due("no work", x.meanWork(), 0.0);
        Make.sail(x, 0, 1, 7, 0);
        for (int people = 1; people <= 8; people++) {
            Check.due("seven hours of " + people, x.meanWork(), 7.0 / people);
            if (people < 8) {
                x.addPerson();
            }
        }
        x.pass(48);
        Check.due("past hours count", x.meanWork(), 7.0 / 8);
        Make.sail(x, 0, 987, 12, 0);
        Check.due("up to the last hour", x.meanWork(), 19.0 / 8);
    }

    /** "The other calls are questions, which change nothing." */
    private static void questionsChangeNothing() {
        Twin.Making office = x -> {
            Make.people(x, 3);
            Make.ship(x, 0, 1);
            Make.ship(x, 2);
            Make.sail(x, 1, 2, 3, 2);
            Make.sail(x, 0, 30, 4, 0);
            x.enroll(1, 3, 2, 2);
            x.pass(5);
            x.callSick(2, 1);
        };
        Twin.asks("now", 5, office, x -> x.now());
        Twin.asks("lastDay", 59, office, x -> x.lastDay(0, 0));
        Twin.asks("isAway", true, office, x -> x.isAway(2, 0));
        Twin.asks("stateOf", 's', office, x -> x.stateOf(0));
        Twin.asks("personOn", 0, office, x -> x.personOn(1, 0));
        Twin.asks("isComplete", false, office, x -> x.isComplete(1));
        Twin.asks("reason", Ferryroster.FITS, office, x -> x.reason(1, 1, 0));
        Twin.asks("fitting", 3, office, x -> x.fitting(1, 0));
        Twin.asks("shortSailings", 1, office, x -> x.shortSailings());
        Twin.asks("sailings", 1, office, x -> x.sailings('p'));
        Twin.asks("work", 3, office, x -> x.work(2, 0, 999));
        Twin.asks("mostInDay", 3, office, x -> x.mostInDay(2));
        Twin.asks("mostInDayByHours", 3, office, x -> x.mostInDayByHours(2));
        Twin.asks("mostInWeek", 3, office, x -> x.mostInWeek(2));
        Twin.asks("mostInWeekByHours", 3, office, x -> x.mostInWeekByHours(2));
        Twin.asks("nextStart", 6, office, x -> x.nextStart(0, 12));
        Twin.asks("workShare", 3f / 5f, office, x -> x.workShare(2));
        Twin.asks("meanWork", 7.0 / 3.0, office, x -> x.meanWork());
        Twin.asks("isSound", true, office, x -> x.isSound());
    }
}
