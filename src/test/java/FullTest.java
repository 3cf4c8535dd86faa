/** Each call when all is full: people, ships, posts and sailings, and at the end of time. */
public final class FullTest {
    /** 96 calls: 8 people, 4 ships with 3 posts each, and on each of them a sailing on each of 6 days. */
    private static final Twin.Making FULL = x -> {
        Make.people(x, 8);
        for (int ship = 0; ship < 4; ship++) {
            Make.ship(x, 0, 1, 2);
        }
        for (int day = 0; day < 6; day++) {
            for (int ship = 0; ship < 4; ship++) {
                x.plan(ship, 24 * day + 1, 12);
            }
        }
    };
    /** The hour 999, with three people and a sailing that ends there. */
    private static final Twin.Making END = x -> {
        for (int person = 0; person < 3; person++) {
            x.addPerson();
        }
        Make.ship(x, 0);
        Make.hours(x, 960);
        x.enroll(2, 1, 41, 1);
        x.grant(0, 0, 2);
        x.grant(0, 1, 1);
        Make.sail(x, 0, 987, 12, 0);
        Make.hours(x, 39);
    };

    public static void main(String[] args) {
        nobodyAndNothingMore();
        theLastOfEach();
        numbersBeyondTheLast();
        allPeopleFit();
        allSailingsAreShort();
        allSailingsAreCancelled();
        reliefOfAll();
        cancelledSailingsCount();
        allIsTaken();
        allSickAllDays();
        timeAtTheEnd();
        peopleAtTheEnd();
        certificatesAtTheEnd();
        sailingsAtTheEnd();
        workAtTheEnd();
        Check.end("FullTest");
    }

    private static void nobodyAndNothingMore() {
        Twin.refuses("a ninth person", Check.STATE, FULL, x -> x.addPerson());
        for (int kind = 0; kind < 4; kind++) {
            int of = kind;
            Twin.refuses("a fifth ship of kind " + kind, Check.STATE, FULL, x -> x.addShip(of));
            Twin.refuses("a fourth post of kind " + kind, Check.STATE, FULL, x -> x.addPost(3, of));
        }
        Twin.refuses("a sailing too many, in free hours", Check.STATE, FULL, x -> x.plan(0, 500, 1));
        Twin.refuses("a sailing too many, in hours of another", Check.STATE, FULL, x -> x.plan(0, 1, 12));
    }

    private static void theLastOfEach() {
        Twin.answers("the eighth person", 7, x -> Make.people(x, 7), x -> x.addPerson());
        Twin.answers("the fourth ship", 3, x -> {
            x.addShip(0);
            x.addShip(0);
            x.addShip(0);
        }, x -> x.addShip(3));
        Twin.answers("the third post", 3, x -> Make.ship(x, 0, 0), x -> x.addPost(0, 3));
        Twin.answers("the sailing 23", 23, x -> {
            x.addShip(0);
            for (int i = 1; i < 24; i++) {
                x.plan(0, i, 1);
            }
        }, x -> x.plan(0, 24, 1));
        Twin.refuses("the sailing 24", Check.STATE, x -> {
            x.addShip(0);
            for (int i = 1; i < 25; i++) {
                x.plan(0, i, 1);
            }
        }, x -> x.plan(0, 25, 1));
    }

    private static void numbersBeyondTheLast() {
        Twin.asks("person 7", 59, FULL, x -> x.lastDay(7, 3));
        Twin.refuses("person 8", Check.BOUNDS, FULL, x -> x.lastDay(8, 3));
        Twin.refuses("ship 4", Check.BOUNDS, FULL, x -> x.addPost(4, 0));
        Twin.asks("sailing 23", 'p', FULL, x -> x.stateOf(23));
        Twin.refuses("sailing 24", Check.MISSING, FULL, x -> x.stateOf(24));
        Twin.asks("post 2", -1, FULL, x -> x.personOn(23, 2));
        Twin.refuses("post 3", Check.BOUNDS, FULL, x -> x.personOn(23, 3));
        Twin.answers("person 7 on post 2 of sailing 23", -1, FULL, x -> x.assign(23, 2, 7));
        Twin.refuses("person 8 on it", Check.BOUNDS, FULL, x -> x.assign(23, 2, 8));
    }

    private static void allPeopleFit() {
        for (int post = 0; post < 3; post++) {
            int on = post;
            Twin.asks("fitting the post " + post, 8, FULL, x -> x.fitting(23, on));
        }
    }

    private static void allSailingsAreShort() {
        Twin.asks("short", 24, FULL, x -> x.shortSailings());
        Twin.asks("planned", 24, FULL, x -> x.sailings('p'));
        Twin.asks("sailed", 0, FULL, x -> x.sailings('s'));
        Twin.asks("cancelled", 0, FULL, x -> x.sailings('c'));
    }

    private static void allSailingsAreCancelled() {
        Twin.answers("all 24 in one call", 24, x -> {
            x.addShip(0);
            for (int i = 1; i < 25; i++) {
                x.plan(0, i, 1);
            }
        }, x -> x.pass(48));
        Twin.answers("all 24 are cancelled", 24, FULL, x -> {
            Make.days(x, 6);
            return x.sailings('c');
        });
        Twin.answers("none is planned", 0, FULL, x -> {
            Make.days(x, 6);
            return x.sailings('p') + x.shortSailings();
        });
        Twin.answers("four in the first hour", 4, FULL, x -> x.pass(1));
        Twin.answers("four more in the first hour of the next day but one", 4, FULL, x -> {
            x.pass(24);
            return x.pass(1);
        });
    }

    /** Eight people for the four ships of the first day: two of them get a crew. */
    private static void reliefOfAll() {
        Ferryroster x = new Ferryroster();
        FULL.make(x);
        Check.due("two of the first four are cancelled", x.relieveAll(), 2);
        int[] people = {0, 1, 2, 3, 4, 5, -1, -1, -1, -1, -1, -1, -1, -1, -1};
        for (int i = 0; i < people.length; i++) {
            Check.due("sailing " + i / 3 + " post " + i % 3, x.personOn(i / 3, i % 3), people[i]);
        }
        Check.due("sailing 2", x.stateOf(2), 'c');
        Check.due("sailing 3", x.stateOf(3), 'c');
        Check.due("the fifth one is not looked at", x.stateOf(4), 'p');
        Check.due("the others are short still", x.shortSailings(), 20);
    }

    private static void cancelledSailingsCount() {
        Twin.Making cancelled = x -> {
            FULL.make(x);
            for (int sailing = 0; sailing < 24; sailing++) {
                x.cancel(sailing);
            }
        };
        Twin.asks("all are cancelled", 24, cancelled, x -> x.sailings('c'));
        Twin.refuses("24 cancelled ones are 24 sailings", Check.STATE, cancelled, x -> x.plan(0, 500, 1));
        Twin.refuses("a ship with cancelled sailings", Check.STATE, cancelled, x -> x.addPost(0, 0));
        Twin.asks("nothing to relieve", 0, cancelled, x -> x.relieveAll());
        Twin.asks("nothing is short", 0, cancelled, x -> x.shortSailings());
        Twin.asks("sound", true, cancelled, x -> x.isSound());
    }

    /** Everybody is on a sailing of the first day: two of them are complete, one lacks a person, and one has nobody. */
    private static void allIsTaken() {
        Twin.Making taken = x -> {
            FULL.make(x);
            for (int person = 0; person < 8; person++) {
                x.assign(person / 3, person % 3, person);
            }
        };
        Twin.asks("nobody is left", 0, taken, x -> x.fitting(3, 0));
        Twin.asks("person 7 is elsewhere", Ferryroster.ELSEWHERE, taken, x -> x.reason(3, 2, 7));
        Twin.asks("complete", true, taken, x -> x.isComplete(1));
        Twin.asks("two of three", false, taken, x -> x.isComplete(2));
        Twin.refuses("nobody for the third post", Check.UNSUPPORTED, taken, x -> x.relieve(2));
        Twin.refuses("nobody to assign", Check.UNSUPPORTED, taken, x -> x.assign(2, 2, 0));
        Twin.asks("no changes of a complete one", 0, taken, x -> x.relieve(0));
        Twin.answers("three people", 3, taken, x -> x.cancel(0));
        Twin.answers("two people", 2, taken, x -> x.cancel(2));
        Twin.answers("two sail, two are cancelled", 2, taken, x -> x.pass(1));
        Twin.asks("the mean of all", 12.0, taken, x -> x.meanWork());
    }

    private static void allSickAllDays() {
        Twin.Making sick = x -> {
            Make.people(x, 1);
            Make.days(x, 40);
            x.callSick(0, 20);
        };
        Twin.answers("sick already, again", 0, sick, x -> x.callSick(0, 20));
        Twin.answers("the days 40 and 41", 2, sick, x -> x.recover(0));
        Twin.Making sickFromTheFirstDay = x -> {
            x.addPerson();
            x.callSick(0, 20);
            Make.days(x, 20);
            x.callSick(0, 20);
            Make.days(x, 20);
            x.callSick(0, 20);
        };
        for (int day = 0; day < 42; day++) {
            int on = day;
            Twin.answers("sick on day " + day, true, sickFromTheFirstDay, x -> x.isAway(0, on));
        }
        Twin.answers("the days from 40 on", 2, sickFromTheFirstDay, x -> x.recover(0));
    }

    private static void timeAtTheEnd() {
        Twin.asks("the last hour", 999, END, x -> x.now());
        for (int hours = 1; hours <= 48; hours += 47) {
            int more = hours;
            Twin.refuses("pass(" + hours + ") at the end", Check.STATE, END, x -> x.pass(more));
        }
        Twin.refuses("pass(0) at the end", Check.ARGUMENT, END, x -> x.pass(0));
        Twin.refuses("pass(49) at the end", Check.ARGUMENT, END, x -> x.pass(49));
    }

    private static void peopleAtTheEnd() {
        Twin.answers("a person", 3, END, x -> x.addPerson());
        Twin.answers("sick on the day 41", 0, END, x -> x.callSick(0, 20));
        Twin.answers("sick on the day 41 alone", 1, END, x -> {
            x.callSick(0, 20);
            return x.recover(0);
        });
        Twin.refuses("not sick", Check.STATE, END, x -> x.recover(0));
        for (int first = 40; first < 44; first++) {
            int day = first;
            Twin.refuses("no day for a course: " + first, Check.ARGUMENT, END, x -> x.enroll(0, 0, day, 1));
        }
        Twin.refuses("the course of the day 41 is not over", Check.MISSING, END, x -> x.lastDay(2, 1));
        Twin.answers("it can be left", 1, END, x -> x.leaveCourse(2));
        Twin.asks("away on the day 41", true, END, x -> x.isAway(2, 41));
        Twin.asks("not away on the day 41", false, END, x -> x.isAway(0, 41));
    }

    private static void certificatesAtTheEnd() {
        Twin.answers("for a day", 41, END, x -> x.grant(1, 0, 1));
        Twin.answers("for 60 days", 100, END, x -> x.grant(1, 0, 60));
        Twin.answers("renewed on its last day", 101, END, x -> x.renew(0, 0, 60));
        Twin.refuses("valid still", Check.STATE, END, x -> x.grant(0, 0, 1));
        Twin.answers("in place of one of the day 40", 41, END, x -> x.grant(0, 1, 1));
        Twin.refuses("one of the day 40 has ended", Check.STATE, END, x -> x.renew(0, 1, 1));
        Twin.asks("also of one that has ended", 40, END, x -> x.lastDay(0, 1));
    }

    private static void sailingsAtTheEnd() {
        for (int start = 986; start < 1001; start++) {
            int from = start;
            Twin.refuses("no hour for a sailing: " + start, Check.ARGUMENT, END, x -> x.plan(0, from, 1));
        }
        Twin.answers("a ship", 1, END, x -> x.addShip(0));
        Twin.asks("the last one has sailed", 's', END, x -> x.stateOf(0));
        Twin.asks("its person", 0, END, x -> x.personOn(0, 0));
        Twin.asks("nothing to relieve", 0, END, x -> x.relieveAll());
        Twin.asks("sound", true, END, x -> x.isSound());
    }

    private static void workAtTheEnd() {
        Twin.asks("all hours", 12, END, x -> x.work(0, 0, 999));
        Twin.asks("the last hour", 1, END, x -> x.work(0, 998, 999));
        Twin.asks("in a day", 12, END, x -> x.mostInDay(0));
        Twin.asks("in a day by hours", 12, END, x -> x.mostInDayByHours(0));
        Twin.asks("in a week", 12, END, x -> x.mostInWeek(0));
        Twin.asks("in a week by hours", 12, END, x -> x.mostInWeekByHours(0));
        Twin.asks("the share", 12f / 999f, END, x -> x.workShare(0));
        Twin.asks("the mean", 4.0, END, x -> x.meanWork());
        for (int hours = 1; hours <= 12; hours++) {
            int length = hours;
            Twin.refuses("no next start for " + hours, Check.MISSING, END, x -> x.nextStart(0, length));
        }
        Twin.refuses("a wrong length at the end", Check.ARGUMENT, END, x -> x.nextStart(0, 13));
    }
}
