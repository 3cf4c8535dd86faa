/**
 * Each exception of each promise: the last value that is allowed and the first that is not, on each side, numbers that
 * wrap round, the order of the exceptions, and that a refused call changes nothing.
 */
public final class RefusalTest {
    private interface IntCall {
        Object on(Ferryroster x, int number);
    }

    /**
     * The hour 5. Three people with certificates; ship 0 has two posts, ship 1 has one. Sailing 0 of ship 1 has sailed
     * with person 2, sailing 1 of ship 0 is planned with person 0 on its post 0, sailing 2 of ship 0 is cancelled.
     * Person 1 has a course on the days 2 and 3, person 2 is sick on the present day.
     */
    private static final Twin.Making OFFICE = x -> {
        Make.people(x, 3);
        Make.ship(x, 0, 1);
        Make.ship(x, 2);
        Make.sail(x, 1, 2, 3, 2);
        Make.sail(x, 0, 30, 4, 0);
        x.plan(0, 40, 4);
        x.cancel(2);
        x.enroll(1, 3, 2, 2);
        x.pass(5);
        x.callSick(2, 1);
    };
    /** The same, and a person 3 without certificates. */
    private static final Twin.Making OFFICE_AND_NEWCOMER = x -> {
        OFFICE.make(x);
        x.addPerson();
    };
    private static final Twin.Making BARE = x -> {
        for (int person = 0; person < 3; person++) {
            x.addPerson();
        }
    };

    public static void main(String[] args) {
        passHours();
        passToTheEnd();
        passInOrder();
        setDayRule();
        setWeekRule();
        grantNumbers();
        grantOneThatHasNotEnded();
        grantInOrder();
        renewNumbers();
        renewOnItsDays();
        renewInOrder();
        lastDay();
        callSick();
        recover();
        enrollNumbers();
        enrollWithACourse();
        enrollInOrder();
        leaveCourse();
        isAway();
        addShip();
        addPost();
        addPostWithSailings();
        planNumbers();
        planStart();
        planOverAnother();
        planInOrder();
        assignNumbers();
        assignState();
        assignSomebodyOnIt();
        assignSomebodyUnfit();
        assignInOrder();
        release();
        cancel();
        relieve();
        stateOf();
        personOn();
        isComplete();
        reason();
        fitting();
        sailings();
        work();
        most();
        nextStart();
        workShare();
        Check.end("RefusalTest");
    }

    private static void refuses(String what, Class<?> want, Twin.Making making, IntCall call, int... numbers) {
        for (int number : numbers) {
            Twin.refuses(what + " " + number, want, making, x -> call.on(x, number));
        }
    }

    private static void noSuchPerson(String what, IntCall call) {
        refuses(what + " of the person", Check.BOUNDS, OFFICE, call, -1, 3, 8, Integer.MIN_VALUE, Integer.MAX_VALUE);
    }

    private static void noSuchKind(String what, IntCall call) {
        refuses(what + " of the kind", Check.ARGUMENT, OFFICE, call, -1, 4, Integer.MIN_VALUE, Integer.MAX_VALUE);
    }

    private static void noSuchSailing(String what, IntCall call) {
        refuses(what + " of the sailing", Check.MISSING, OFFICE, call, -1, 3, 24, Integer.MIN_VALUE,
                Integer.MAX_VALUE);
    }

    /** The planned sailing 1 has the posts 0 and 1, the sailing 0 that has sailed has the post 0. */
    private static void noSuchPost(String what, IntCall call) {
        refuses(what + " of the post", Check.BOUNDS, OFFICE, call, -1, 2, 3, Integer.MIN_VALUE, Integer.MAX_VALUE);
    }

    private static void notPlanned(String what, IntCall call) {
        refuses(what + " of one that has sailed, and of a cancelled one", Check.STATE, OFFICE, call, 0, 2);
    }

    // ---- promise 2: "hours: the number of hours, 1 to 48"; "if the present hour would be greater than 999"

    private static void passHours() {
        refuses("pass", Check.ARGUMENT, OFFICE, (x, hours) -> x.pass(hours), 0, -1, 49, Integer.MIN_VALUE,
                Integer.MAX_VALUE, Integer.MAX_VALUE - 4);
        Twin.answers("pass(1)", 0, OFFICE, x -> x.pass(1));
        Twin.answers("pass(48)", 1, OFFICE, x -> x.pass(48));
        Twin.answers("the hour after pass(1)", 6, OFFICE, x -> {
            x.pass(1);
            return x.now();
        });
        Twin.answers("the hour after pass(48)", 53, OFFICE, x -> {
            x.pass(48);
            return x.now();
        });
    }

    private static void passToTheEnd() {
        Twin.Making at951 = x -> {
            x.addPerson();
            Make.hours(x, 951);
        };
        Twin.Making at952 = x -> {
            at951.make(x);
            x.pass(1);
        };
        Twin.answers("48 hours up to 999", 999, at951, x -> x.pass(48) + x.now());
        Twin.refuses("48 hours up to 1000", Check.STATE, at952, x -> x.pass(48));
        Twin.answers("47 hours up to 999", 999, at952, x -> x.pass(47) + x.now());
        Twin.Making at998 = x -> {
            at952.make(x);
            x.pass(46);
        };
        Twin.answers("an hour up to 999", 999, at998, x -> x.pass(1) + x.now());
        Twin.refuses("two hours up to 1000", Check.STATE, at998, x -> x.pass(2));
    }

    private static void passInOrder() {
        Twin.Making at999 = x -> {
            x.addPerson();
            Make.hours(x, 999);
        };
        refuses("pass at 999", Check.STATE, at999, (x, hours) -> x.pass(hours), 1, 48);
        refuses("out of range comes before 999", Check.ARGUMENT, at999, (x, hours) -> x.pass(hours), 0, 49,
                Integer.MAX_VALUE, Integer.MIN_VALUE);
    }

    // ---- promises 4 and 5: "hours: the number of hours, 1 to 24", "1 to 168"

    private static void setDayRule() {
        refuses("setDayRule", Check.ARGUMENT, OFFICE, (x, hours) -> x.setDayRule(hours), 0, -1, 25,
                Integer.MIN_VALUE, Integer.MAX_VALUE);
        Twin.answers("setDayRule(1)", 1, OFFICE, x -> {
            x.setDayRule(1);
            return x.setDayRule(14);
        });
        Twin.answers("setDayRule(24)", 24, OFFICE, x -> {
            x.setDayRule(24);
            return x.setDayRule(14);
        });
    }

    private static void setWeekRule() {
        refuses("setWeekRule", Check.ARGUMENT, OFFICE, (x, hours) -> x.setWeekRule(hours), 0, -1, 169,
                Integer.MIN_VALUE, Integer.MAX_VALUE);
        Twin.answers("setWeekRule(1)", 1, OFFICE, x -> {
            x.setWeekRule(1);
            return x.setWeekRule(72);
        });
        Twin.answers("setWeekRule(168)", 168, OFFICE, x -> {
            x.setWeekRule(168);
            return x.setWeekRule(72);
        });
    }

    // ---- promise 7

    private static void grantNumbers() {
        noSuchPerson("grant", (x, person) -> x.grant(person, 0, 5));
        noSuchKind("grant", (x, kind) -> x.grant(0, kind, 5));
        refuses("grant for days", Check.ARGUMENT, BARE, (x, days) -> x.grant(0, 0, days), 0, -1, 61,
                Integer.MIN_VALUE, Integer.MAX_VALUE);
        Twin.answers("person 0, kind 0, a day", 0, BARE, x -> x.grant(0, 0, 1));
        Twin.answers("person 2, kind 3, 60 days", 59, BARE, x -> x.grant(2, 3, 60));
    }

    /** "if the person has a certificate of this kind whose last day is not less than the present day" */
    private static void grantOneThatHasNotEnded() {
        Twin.Making lastHourOfDay2 = x -> {
            x.addPerson();
            x.grant(0, 1, 3);
            Make.hours(x, 71);
        };
        Twin.refuses("on its last day", Check.STATE, lastHourOfDay2, x -> x.grant(0, 1, 5));
        Twin.answers("another kind on that day", 6, lastHourOfDay2, x -> x.grant(0, 2, 5));
        Twin.answers("on the day after", 7, x -> {
            lastHourOfDay2.make(x);
            x.pass(1);
        }, x -> x.grant(0, 1, 5));
        Twin.refuses("long before its last day", Check.STATE, OFFICE, x -> x.grant(0, 0, 1));
    }

    private static void grantInOrder() {
        Twin.refuses("no person before no kind", Check.BOUNDS, OFFICE, x -> x.grant(3, 4, 5));
        Twin.refuses("no person before no days", Check.BOUNDS, OFFICE, x -> x.grant(-1, 0, 0));
        Twin.refuses("no days before the certificate", Check.ARGUMENT, OFFICE, x -> x.grant(0, 0, 0));
        Twin.refuses("too many days before the certificate", Check.ARGUMENT, OFFICE, x -> x.grant(0, 0, 61));
    }

    // ---- promise 8

    private static void renewNumbers() {
        Twin.Making shortOnes = x -> {
            BARE.make(x);
            x.grant(0, 0, 5);
            x.grant(2, 3, 5);
        };
        noSuchPerson("renew", (x, person) -> x.renew(person, 0, 5));
        noSuchKind("renew", (x, kind) -> x.renew(0, kind, 5));
        refuses("renew by days", Check.ARGUMENT, shortOnes, (x, days) -> x.renew(0, 0, days), 0, -1, 61,
                Integer.MIN_VALUE, Integer.MAX_VALUE);
        Twin.answers("person 0, kind 0, a day", 5, shortOnes, x -> x.renew(0, 0, 1));
        Twin.answers("person 2, kind 3, 60 days", 64, shortOnes, x -> x.renew(2, 3, 60));
        Twin.refuses("no certificate of this kind", Check.MISSING, shortOnes, x -> x.renew(0, 1, 5));
        Twin.refuses("no certificate of this person", Check.MISSING, shortOnes, x -> x.renew(1, 0, 5));
    }

    /** "if the present day is greater than the last day of the certificate, or less than the last day minus 9" */
    private static void renewOnItsDays() {
        Twin.Making lastHourOfDay10 = x -> {
            x.addPerson();
            x.grant(0, 2, 21);
            Make.hours(x, 263);
        };
        Twin.refuses("ten days before the last one", Check.STATE, lastHourOfDay10, x -> x.renew(0, 2, 1));
        Twin.answers("nine days before the last one", 21, x -> {
            lastHourOfDay10.make(x);
            x.pass(1);
        }, x -> x.renew(0, 2, 1));
        Twin.Making lastHourOfDay20 = x -> {
            lastHourOfDay10.make(x);
            Make.days(x, 10);
        };
        Twin.answers("on the last day", 80, lastHourOfDay20, x -> x.renew(0, 2, 60));
        Twin.refuses("on the day after the last one", Check.STATE, x -> {
            lastHourOfDay20.make(x);
            x.pass(1);
        }, x -> x.renew(0, 2, 60));
        Twin.answers("on its first and last day", 1, x -> {
            x.addPerson();
            x.grant(0, 2, 1);
        }, x -> x.renew(0, 2, 1));
        Twin.answers("on its first day, of ten", 10, x -> {
            x.addPerson();
            x.grant(0, 2, 10);
        }, x -> x.renew(0, 2, 1));
        Twin.refuses("on its first day, of eleven", Check.STATE, x -> {
            x.addPerson();
            x.grant(0, 2, 11);
        }, x -> x.renew(0, 2, 1));
    }

    private static void renewInOrder() {
        Twin.refuses("no person before no kind", Check.BOUNDS, OFFICE, x -> x.renew(3, 4, 5));
        Twin.refuses("no person before no days", Check.BOUNDS, OFFICE, x -> x.renew(3, 0, 0));
        Twin.refuses("no days before no certificate", Check.ARGUMENT, BARE, x -> x.renew(0, 0, 0));
        Twin.refuses("no kind before no certificate", Check.ARGUMENT, BARE, x -> x.renew(0, -1, 1));
        Twin.refuses("too many days before the wrong day", Check.ARGUMENT, OFFICE, x -> x.renew(0, 0, 61));
        Twin.refuses("the wrong day", Check.STATE, OFFICE, x -> x.renew(0, 0, 60));
    }

    // ---- promise 9

    private static void lastDay() {
        noSuchPerson("lastDay", (x, person) -> x.lastDay(person, 0));
        noSuchKind("lastDay", (x, kind) -> x.lastDay(0, kind));
        Twin.asks("person 0, kind 0", 59, OFFICE, x -> x.lastDay(0, 0));
        Twin.asks("person 2, kind 3", 59, OFFICE, x -> x.lastDay(2, 3));
        Twin.refuses("no certificate", Check.MISSING, BARE, x -> x.lastDay(0, 0));
        Twin.refuses("no person before no kind", Check.BOUNDS, BARE, x -> x.lastDay(3, 4));
        Twin.refuses("no kind before no certificate", Check.ARGUMENT, BARE, x -> x.lastDay(0, 4));
        Twin.refuses("no person before no certificate", Check.BOUNDS, BARE, x -> x.lastDay(3, 0));
    }

    // ---- promises 10 and 11

    private static void callSick() {
        noSuchPerson("callSick", (x, person) -> x.callSick(person, 1));
        refuses("callSick for days", Check.ARGUMENT, OFFICE, (x, days) -> x.callSick(0, days), 0, -1, 21,
                Integer.MIN_VALUE, Integer.MAX_VALUE);
        Twin.answers("person 0, a day", 1, OFFICE, x -> x.callSick(0, 1) + x.recover(0));
        Twin.answers("person 2, 20 days", 20, OFFICE, x -> x.callSick(2, 20) + x.recover(2));
        Twin.refuses("no person before no days", Check.BOUNDS, OFFICE, x -> x.callSick(3, 0));
        Twin.refuses("no person before too many days", Check.BOUNDS, OFFICE, x -> x.callSick(-1, 21));
    }

    private static void recover() {
        noSuchPerson("recover", (x, person) -> x.recover(person));
        Twin.refuses("not sick", Check.STATE, OFFICE, x -> x.recover(0));
        Twin.refuses("on a course alone", Check.STATE, OFFICE, x -> x.recover(1));
        Twin.answers("sick on the present day alone", 1, OFFICE, x -> x.recover(2));
        Twin.refuses("well again", Check.STATE, x -> {
            OFFICE.make(x);
            x.recover(2);
        }, x -> x.recover(2));
        Twin.answers("in the last hour of the only day", 1, x -> {
            OFFICE.make(x);
            x.pass(18);
        }, x -> x.recover(2));
        Twin.refuses("in the hour after it", Check.STATE, x -> {
            OFFICE.make(x);
            x.pass(19);
        }, x -> x.recover(2));
    }

    // ---- promise 12

    private static void enrollNumbers() {
        noSuchPerson("enroll", (x, person) -> x.enroll(person, 0, 5, 1));
        noSuchKind("enroll", (x, kind) -> x.enroll(0, kind, 5, 1));
        Twin.Making onDay3 = x -> {
            OFFICE.make(x);
            Make.days(x, 3);
        };
        refuses("enroll from the day", Check.ARGUMENT, onDay3, (x, first) -> x.enroll(0, 0, first, 1), 3, 2, 0, -1,
                42, 43, Integer.MIN_VALUE, Integer.MAX_VALUE);
        refuses("enroll for days", Check.ARGUMENT, onDay3, (x, days) -> x.enroll(0, 0, 5, days), 0, -1, 11,
                Integer.MIN_VALUE, Integer.MAX_VALUE, Integer.MAX_VALUE - 4);
        refuses("enroll for 10 days from the day", Check.ARGUMENT, onDay3, (x, first) -> x.enroll(0, 0, first, 10),
                33, 41, 42, Integer.MAX_VALUE, Integer.MAX_VALUE - 9);
        Twin.refuses("two days from the day 41", Check.ARGUMENT, onDay3, x -> x.enroll(0, 0, 41, 2));
        Twin.answers("the next day, kind 0", 4, onDay3, x -> x.enroll(0, 0, 4, 1));
        Twin.answers("the last day, kind 3", 41, onDay3, x -> x.enroll(2, 3, 41, 1));
        Twin.answers("ten days up to the last day", 41, onDay3, x -> x.enroll(0, 0, 32, 10));
    }

    /** "if the person has a course that is not over" */
    private static void enrollWithACourse() {
        Twin.refuses("before the course", Check.STATE, OFFICE, x -> x.enroll(1, 0, 9, 1));
        Twin.refuses("on the days of the course", Check.STATE, OFFICE, x -> x.enroll(1, 3, 2, 2));
        Twin.Making lastHour = x -> {
            OFFICE.make(x);
            Make.hours(x, 90);
        };
        Twin.refuses("in the last hour of its last day", Check.STATE, lastHour, x -> x.enroll(1, 0, 9, 1));
        Twin.answers("in the hour after it", 9, x -> {
            lastHour.make(x);
            x.pass(1);
        }, x -> x.enroll(1, 0, 9, 1));
        Twin.answers("when it has been left", 2, x -> {
            OFFICE.make(x);
            x.leaveCourse(1);
        }, x -> x.enroll(1, 0, 2, 1));
    }

    private static void enrollInOrder() {
        Twin.refuses("no person before no kind", Check.BOUNDS, OFFICE, x -> x.enroll(3, 4, 5, 1));
        Twin.refuses("no person before no first day", Check.BOUNDS, OFFICE, x -> x.enroll(3, 0, 0, 1));
        Twin.refuses("no person before no days", Check.BOUNDS, OFFICE, x -> x.enroll(3, 0, 5, 0));
        Twin.refuses("no kind before the course", Check.ARGUMENT, OFFICE, x -> x.enroll(1, 4, 5, 1));
        Twin.refuses("no first day before the course", Check.ARGUMENT, OFFICE, x -> x.enroll(1, 0, 0, 1));
        Twin.refuses("no days before the course", Check.ARGUMENT, OFFICE, x -> x.enroll(1, 0, 5, 11));
        Twin.refuses("beyond the day 41 before the course", Check.ARGUMENT, OFFICE, x -> x.enroll(1, 0, 40, 3));
    }

    // ---- promises 13 and 14

    private static void leaveCourse() {
        noSuchPerson("leaveCourse", (x, person) -> x.leaveCourse(person));
        Twin.refuses("no course", Check.STATE, OFFICE, x -> x.leaveCourse(0));
        Twin.refuses("sick alone", Check.STATE, OFFICE, x -> x.leaveCourse(2));
        Twin.refuses("left already", Check.STATE, x -> {
            OFFICE.make(x);
            x.leaveCourse(1);
        }, x -> x.leaveCourse(1));
        Twin.Making lastHour = x -> {
            OFFICE.make(x);
            Make.hours(x, 90);
        };
        Twin.answers("in the last hour of its last day", 1, lastHour, x -> x.leaveCourse(1));
        Twin.refuses("when it is over", Check.STATE, x -> {
            lastHour.make(x);
            x.pass(1);
        }, x -> x.leaveCourse(1));
    }

    private static void isAway() {
        noSuchPerson("isAway", (x, person) -> x.isAway(person, 0));
        refuses("isAway on the day", Check.ARGUMENT, OFFICE, (x, day) -> x.isAway(0, day), -1, 42, 64,
                Integer.MIN_VALUE, Integer.MAX_VALUE);
        refuses("isAway on the day, sick and on a course", Check.ARGUMENT, x -> {
            OFFICE.make(x);
            x.callSick(1, 20);
        }, (x, day) -> x.isAway(1, day), -1, 42, 64, 65, 66);
        Twin.asks("on the day 0", true, OFFICE, x -> x.isAway(2, 0));
        Twin.asks("on the day 41", false, OFFICE, x -> x.isAway(2, 41));
        Twin.refuses("no person before no day", Check.BOUNDS, OFFICE, x -> x.isAway(3, 42));
        Twin.refuses("no person before no day, either", Check.BOUNDS, OFFICE, x -> x.isAway(-1, -1));
    }

    // ---- promises 15 and 16

    private static void addShip() {
        noSuchKind("addShip", (x, kind) -> x.addShip(kind));
        Twin.answers("kind 0", 2, OFFICE, x -> x.addShip(0));
        Twin.answers("kind 3", 2, OFFICE, x -> x.addShip(3));
        Twin.Making fourShips = x -> {
            OFFICE.make(x);
            x.addShip(0);
            x.addShip(0);
        };
        refuses("a fifth ship", Check.STATE, fourShips, (x, kind) -> x.addShip(kind), 0, 3);
        refuses("no kind before a fifth ship", Check.ARGUMENT, fourShips, (x, kind) -> x.addShip(kind), -1, 4);
    }

    private static void addPost() {
        Twin.Making threeShips = x -> {
            OFFICE.make(x);
            Make.ship(x, 0, 0);
        };
        refuses("addPost to the ship", Check.BOUNDS, threeShips, (x, ship) -> x.addPost(ship, 0), -1, 3, 4,
                Integer.MIN_VALUE, Integer.MAX_VALUE);
        refuses("addPost of the kind", Check.ARGUMENT, threeShips, (x, kind) -> x.addPost(2, kind), -1, 4,
                Integer.MIN_VALUE, Integer.MAX_VALUE);
        Twin.answers("a third post of kind 0", 3, threeShips, x -> x.addPost(2, 0));
        Twin.answers("a third post of kind 3", 3, threeShips, x -> x.addPost(2, 3));
        Twin.Making threePosts = x -> {
            threeShips.make(x);
            x.addPost(2, 3);
        };
        Twin.refuses("a fourth post", Check.STATE, threePosts, x -> x.addPost(2, 0));
        Twin.refuses("no kind before a fourth post", Check.ARGUMENT, threePosts, x -> x.addPost(2, 4));
        Twin.refuses("no ship before no kind", Check.BOUNDS, threePosts, x -> x.addPost(3, 4));
    }

    /** "or has sailings of any state" */
    private static void addPostWithSailings() {
        Twin.Making planned = x -> {
            Make.people(x, 1);
            Make.ship(x, 0);
            x.addShip(0);
            x.plan(0, 5, 1);
        };
        Twin.refuses("a planned one", Check.STATE, planned, x -> x.addPost(0, 0));
        Twin.answers("the sailing of another ship", 2, planned, x -> x.addPost(1, 0));
        Twin.refuses("a cancelled one", Check.STATE, x -> {
            planned.make(x);
            x.cancel(0);
        }, x -> x.addPost(0, 0));
        Twin.refuses("one that has sailed", Check.STATE, x -> {
            planned.make(x);
            x.assign(0, 0, 0);
            x.pass(5);
        }, x -> x.addPost(0, 0));
        Twin.refuses("one that has ended", Check.STATE, x -> {
            planned.make(x);
            x.assign(0, 0, 0);
            x.pass(7);
        }, x -> x.addPost(0, 0));
        Twin.refuses("no kind before a sailing", Check.ARGUMENT, planned, x -> x.addPost(0, -1));
    }

    // ---- promise 17

    private static void planNumbers() {
        refuses("plan of the ship", Check.BOUNDS, OFFICE, (x, ship) -> x.plan(ship, 100, 1), -1, 2, 4,
                Integer.MIN_VALUE, Integer.MAX_VALUE);
        refuses("plan of hours", Check.ARGUMENT, OFFICE, (x, hours) -> x.plan(0, 100, hours), 0, -1, 13,
                Integer.MIN_VALUE, Integer.MAX_VALUE, Integer.MAX_VALUE - 100);
        Twin.answers("an hour", 3, OFFICE, x -> x.plan(0, 100, 1));
        Twin.answers("twelve hours", 3, OFFICE, x -> x.plan(1, 100, 12));
    }

    /** "the start, later than the present hour"; "the start plus the length is at most 999" */
    private static void planStart() {
        refuses("plan from", Check.ARGUMENT, OFFICE, (x, start) -> x.plan(1, start, 1), 5, 4, 0, -1, 999, 1000,
                Integer.MIN_VALUE, Integer.MAX_VALUE);
        refuses("plan of 12 hours from", Check.ARGUMENT, OFFICE, (x, start) -> x.plan(1, start, 12), 5, -11, 988, 998,
                Integer.MAX_VALUE - 11, Integer.MAX_VALUE);
        Twin.answers("the next hour", 3, OFFICE, x -> x.plan(1, 6, 1));
        Twin.answers("an hour up to 999", 3, OFFICE, x -> x.plan(1, 998, 1));
        Twin.answers("twelve hours up to 999", 3, OFFICE, x -> x.plan(1, 987, 12));
        Twin.Making at997 = x -> {
            OFFICE.make(x);
            Make.hours(x, 992);
        };
        Twin.answers("the last hour of all", 3, at997, x -> x.plan(1, 998, 1));
        Twin.refuses("it is the present hour", Check.ARGUMENT, x -> {
            at997.make(x);
            x.pass(1);
        }, x -> x.plan(1, 998, 1));
    }

    /** "if a sailing of the ship that is not cancelled has an hour of these" */
    private static void planOverAnother() {
        Twin.refuses("it begins in the last hour of another", Check.STATE, OFFICE, x -> x.plan(0, 33, 1));
        Twin.answers("it begins when another ends", 3, OFFICE, x -> x.plan(0, 34, 1));
        Twin.refuses("it has the first hour of another", Check.STATE, OFFICE, x -> x.plan(0, 25, 6));
        Twin.answers("it ends when another begins", 3, OFFICE, x -> x.plan(0, 25, 5));
        Twin.refuses("within another", Check.STATE, OFFICE, x -> x.plan(0, 31, 2));
        Twin.refuses("around another", Check.STATE, OFFICE, x -> x.plan(0, 29, 6));
        Twin.refuses("the same hours", Check.STATE, OFFICE, x -> x.plan(0, 30, 4));
        Twin.answers("the hours of another ship", 3, OFFICE, x -> x.plan(1, 30, 4));
        Twin.answers("the hours of a cancelled one", 3, OFFICE, x -> x.plan(0, 40, 4));
        Twin.Making longOneHasSailed = x -> {
            Make.people(x, 1);
            Make.ship(x, 0);
            Make.sail(x, 0, 5, 12, 0);
            x.pass(6);
        };
        Twin.refuses("the last hour of one that has sailed", Check.STATE, longOneHasSailed, x -> x.plan(0, 16, 1));
        Twin.answers("the hour after it", 1, longOneHasSailed, x -> x.plan(0, 17, 1));
    }

    private static void planInOrder() {
        Twin.refuses("no ship before no start", Check.BOUNDS, OFFICE, x -> x.plan(2, 5, 1));
        Twin.refuses("no ship before no hours", Check.BOUNDS, OFFICE, x -> x.plan(2, 6, 0));
        Twin.refuses("no ship before too late", Check.BOUNDS, OFFICE, x -> x.plan(2, 999, 12));
        Twin.refuses("no hours before another sailing", Check.ARGUMENT, OFFICE, x -> x.plan(0, 30, 13));
        Twin.Making all24 = x -> {
            Make.ship(x, 0);
            for (int i = 1; i < 25; i++) {
                x.plan(0, i, 1);
            }
        };
        Twin.refuses("24 sailings", Check.STATE, all24, x -> x.plan(0, 100, 1));
        Twin.refuses("no ship before 24 sailings", Check.BOUNDS, all24, x -> x.plan(1, 100, 1));
        Twin.refuses("no start before 24 sailings", Check.ARGUMENT, all24, x -> x.plan(0, 0, 1));
        Twin.refuses("no hours before 24 sailings", Check.ARGUMENT, all24, x -> x.plan(0, 100, 0));
        Twin.refuses("too late before 24 sailings", Check.ARGUMENT, all24, x -> x.plan(0, 990, 10));
    }

    // ---- promise 18

    private static void assignNumbers() {
        noSuchSailing("assign", (x, sailing) -> x.assign(sailing, 0, 1));
        noSuchPost("assign", (x, post) -> x.assign(1, post, 2));
        noSuchPerson("assign", (x, person) -> x.assign(1, 1, person));
        Twin.answers("in place of person 0", 0, OFFICE, x -> x.assign(1, 0, 2));
        Twin.answers("on the open post", -1, OFFICE, x -> x.assign(1, 1, 2));
    }

    private static void assignState() {
        notPlanned("assign", (x, sailing) -> x.assign(sailing, 0, 1));
    }

    private static void assignSomebodyOnIt() {
        Twin.refuses("on the other post", Check.ARGUMENT, OFFICE, x -> x.assign(1, 1, 0));
        Twin.refuses("on this post", Check.ARGUMENT, OFFICE, x -> x.assign(1, 0, 0));
    }

    /** "if the person does not fit the post": one for each reason, and the case next to it that is allowed. */
    private static void assignSomebodyUnfit() {
        Twin.refuses("no certificate", Check.UNSUPPORTED, OFFICE_AND_NEWCOMER, x -> x.assign(1, 1, 3));
        Twin.answers("a certificate", -1, x -> {
            OFFICE_AND_NEWCOMER.make(x);
            x.grant(3, 1, 2);
        }, x -> x.assign(1, 1, 3));
        Twin.refuses("sick", Check.UNSUPPORTED, x -> {
            OFFICE.make(x);
            x.callSick(2, 2);
        }, x -> x.assign(1, 1, 2));
        Twin.refuses("on a course", Check.UNSUPPORTED, x -> {
            OFFICE.make(x);
            x.enroll(2, 0, 1, 1);
        }, x -> x.assign(1, 1, 2));
        Twin.answers("on a course on the day after", -1, x -> {
            OFFICE.make(x);
            x.enroll(2, 0, 2, 1);
        }, x -> x.assign(1, 1, 2));
        Twin.refuses("elsewhere", Check.UNSUPPORTED, x -> {
            OFFICE.make(x);
            Make.sail(x, 1, 33, 2, 1);
        }, x -> x.assign(1, 1, 1));
        Twin.answers("elsewhere an hour later", -1, x -> {
            OFFICE.make(x);
            Make.sail(x, 1, 34, 2, 1);
        }, x -> x.assign(1, 1, 1));
        Twin.Making rested = x -> {
            OFFICE.make(x);
            Make.sail(x, 1, 34, 2, 1);
            x.setDayRule(6);
            x.setWeekRule(6);
        };
        Twin.answers("just the two rules", -1, rested, x -> x.assign(1, 1, 1));
        Twin.refuses("the day rule", Check.UNSUPPORTED, x -> {
            rested.make(x);
            x.setDayRule(5);
        }, x -> x.assign(1, 1, 1));
        Twin.refuses("the week rule", Check.UNSUPPORTED, x -> {
            rested.make(x);
            x.setWeekRule(5);
        }, x -> x.assign(1, 1, 1));
    }

    private static void assignInOrder() {
        Twin.refuses("no sailing before no post", Check.MISSING, OFFICE, x -> x.assign(3, 2, 1));
        Twin.refuses("no sailing before no person", Check.MISSING, OFFICE, x -> x.assign(3, 0, 3));
        Twin.refuses("no post before sailed", Check.BOUNDS, OFFICE, x -> x.assign(0, 1, 1));
        Twin.refuses("no person before sailed", Check.BOUNDS, OFFICE, x -> x.assign(0, 0, 3));
        Twin.refuses("no post before cancelled", Check.BOUNDS, OFFICE, x -> x.assign(2, 2, 1));
        Twin.refuses("no person before cancelled", Check.BOUNDS, OFFICE, x -> x.assign(2, 0, -1));
        Twin.refuses("no post before on it", Check.BOUNDS, OFFICE, x -> x.assign(1, 2, 0));
        Twin.refuses("no post before unfit", Check.BOUNDS, OFFICE_AND_NEWCOMER, x -> x.assign(1, 2, 3));
        Twin.refuses("sailed before on it", Check.STATE, OFFICE, x -> x.assign(0, 0, 2));
        Twin.refuses("sailed before unfit", Check.STATE, OFFICE_AND_NEWCOMER, x -> x.assign(0, 0, 3));
        Twin.refuses("cancelled before unfit", Check.STATE, OFFICE_AND_NEWCOMER, x -> x.assign(2, 0, 3));
        Twin.refuses("on it before unfit", Check.ARGUMENT, x -> {
            OFFICE.make(x);
            x.callSick(0, 5);
        }, x -> x.assign(1, 1, 0));
    }

    // ---- promises 19 to 21

    private static void release() {
        noSuchSailing("release", (x, sailing) -> x.release(sailing, 0));
        noSuchPost("release", (x, post) -> x.release(1, post));
        notPlanned("release", (x, sailing) -> x.release(sailing, 0));
        Twin.refuses("an open post", Check.STATE, OFFICE, x -> x.release(1, 1));
        Twin.answers("person 0", 0, OFFICE, x -> x.release(1, 0));
        Twin.refuses("released already", Check.STATE, x -> {
            OFFICE.make(x);
            x.release(1, 0);
        }, x -> x.release(1, 0));
        Twin.refuses("no sailing before no post", Check.MISSING, OFFICE, x -> x.release(3, 2));
        Twin.refuses("no post before sailed", Check.BOUNDS, OFFICE, x -> x.release(0, 1));
        Twin.refuses("no post before cancelled", Check.BOUNDS, OFFICE, x -> x.release(2, 2));
    }

    private static void cancel() {
        noSuchSailing("cancel", (x, sailing) -> x.cancel(sailing));
        notPlanned("cancel", (x, sailing) -> x.cancel(sailing));
        Twin.answers("one person", 1, OFFICE, x -> x.cancel(1));
        Twin.refuses("cancelled already", Check.STATE, x -> {
            OFFICE.make(x);
            x.cancel(1);
        }, x -> x.cancel(1));
    }

    private static void relieve() {
        noSuchSailing("relieve", (x, sailing) -> x.relieve(sailing));
        notPlanned("relieve", (x, sailing) -> x.relieve(sailing));
        Twin.answers("one change", 1, OFFICE, x -> x.relieve(1));
        Twin.Making oneIsLeft = x -> {
            OFFICE.make(x);
            x.callSick(2, 2);
            x.enroll(0, 0, 1, 1);
        };
        Twin.refuses("one person for two posts", Check.UNSUPPORTED, oneIsLeft, x -> x.relieve(1));
        refuses("no way, but sailed or cancelled first", Check.STATE, oneIsLeft, (x, sailing) -> x.relieve(sailing),
                0, 2);
        Twin.refuses("no way, but no sailing first", Check.MISSING, oneIsLeft, x -> x.relieve(3));
    }

    // ---- promises 23 to 29

    private static void stateOf() {
        noSuchSailing("stateOf", (x, sailing) -> x.stateOf(sailing));
        Twin.asks("the first one", 's', OFFICE, x -> x.stateOf(0));
        Twin.asks("the second one", 'p', OFFICE, x -> x.stateOf(1));
        Twin.asks("the last one", 'c', OFFICE, x -> x.stateOf(2));
    }

    private static void personOn() {
        noSuchSailing("personOn", (x, sailing) -> x.personOn(sailing, 0));
        noSuchPost("personOn", (x, post) -> x.personOn(1, post));
        Twin.refuses("no post of one that has sailed", Check.BOUNDS, OFFICE, x -> x.personOn(0, 1));
        Twin.refuses("no post of a cancelled one", Check.BOUNDS, OFFICE, x -> x.personOn(2, 2));
        Twin.refuses("no sailing before no post", Check.MISSING, OFFICE, x -> x.personOn(3, 2));
        Twin.asks("one that has sailed", 2, OFFICE, x -> x.personOn(0, 0));
        Twin.asks("the first post", 0, OFFICE, x -> x.personOn(1, 0));
        Twin.asks("the last post", -1, OFFICE, x -> x.personOn(1, 1));
        Twin.asks("a cancelled one", -1, OFFICE, x -> x.personOn(2, 1));
    }

    private static void isComplete() {
        noSuchSailing("isComplete", (x, sailing) -> x.isComplete(sailing));
        notPlanned("isComplete", (x, sailing) -> x.isComplete(sailing));
        Twin.asks("a planned one", false, OFFICE, x -> x.isComplete(1));
    }

    private static void reason() {
        noSuchSailing("reason", (x, sailing) -> x.reason(sailing, 0, 0));
        noSuchPost("reason", (x, post) -> x.reason(1, post, 0));
        noSuchPerson("reason", (x, person) -> x.reason(1, 0, person));
        notPlanned("reason", (x, sailing) -> x.reason(sailing, 0, 0));
        Twin.asks("the first post and person", 0, OFFICE, x -> x.reason(1, 0, 0));
        Twin.asks("the last post and person", 0, OFFICE, x -> x.reason(1, 1, 2));
        Twin.refuses("no sailing before no post", Check.MISSING, OFFICE, x -> x.reason(3, 2, 0));
        Twin.refuses("no sailing before no person", Check.MISSING, OFFICE, x -> x.reason(3, 0, 3));
        Twin.refuses("no post before sailed", Check.BOUNDS, OFFICE, x -> x.reason(0, 1, 0));
        Twin.refuses("no person before sailed", Check.BOUNDS, OFFICE, x -> x.reason(0, 0, 3));
        Twin.refuses("no post before cancelled", Check.BOUNDS, OFFICE, x -> x.reason(2, 2, 0));
        Twin.refuses("no person before cancelled", Check.BOUNDS, OFFICE, x -> x.reason(2, 0, -1));
    }

    private static void fitting() {
        noSuchSailing("fitting", (x, sailing) -> x.fitting(sailing, 0));
        noSuchPost("fitting", (x, post) -> x.fitting(1, post));
        notPlanned("fitting", (x, sailing) -> x.fitting(sailing, 0));
        Twin.asks("the first post", 3, OFFICE, x -> x.fitting(1, 0));
        Twin.asks("the last post", 3, OFFICE, x -> x.fitting(1, 1));
        Twin.refuses("no sailing before no post", Check.MISSING, OFFICE, x -> x.fitting(3, 2));
        Twin.refuses("no post before sailed", Check.BOUNDS, OFFICE, x -> x.fitting(0, 1));
        Twin.refuses("no post before cancelled", Check.BOUNDS, OFFICE, x -> x.fitting(2, 2));
    }

    /** "if there is no such state": the letters next to the three, and those that differ in the higher bits alone. */
    private static void sailings() {
        refuses("sailings of", Check.ARGUMENT, OFFICE, (x, state) -> x.sailings((char) state), 0, 'o', 'q', 'r', 't',
                'b', 'd', 'P', 'S', 'C', ' ', 'p' + 256, 's' + 256, 'c' + 256, 'p' + 128, 255, 256, 0xffff);
        for (char each : new char[] {'p', 's', 'c'}) {
            Twin.asks("sailings of " + each, 1, OFFICE, x -> x.sailings(each));
        }
    }

    // ---- promises 30 to 36

    /** "from: the first hour, 0 to 998"; "to: greater than the first one and at most 999" */
    private static void work() {
        noSuchPerson("work", (x, person) -> x.work(person, 0, 1));
        refuses("work up to 999 from", Check.ARGUMENT, OFFICE, (x, from) -> x.work(2, from, 999), -1, 999, 1000,
                Integer.MIN_VALUE, Integer.MAX_VALUE);
        refuses("work from 10 up to", Check.ARGUMENT, OFFICE, (x, to) -> x.work(2, 10, to), 10, 9, 0, -1, 1000,
                Integer.MIN_VALUE, Integer.MAX_VALUE);
        Twin.refuses("from 999 up to 1000", Check.ARGUMENT, OFFICE, x -> x.work(2, 999, 1000));
        Twin.refuses("from 0 up to 0", Check.ARGUMENT, OFFICE, x -> x.work(2, 0, 0));
        Twin.asks("all hours", 3, OFFICE, x -> x.work(2, 0, 999));
        Twin.asks("the first hour", 0, OFFICE, x -> x.work(2, 0, 1));
        Twin.asks("the last hour", 0, OFFICE, x -> x.work(2, 998, 999));
        Twin.refuses("no person before no first hour", Check.BOUNDS, OFFICE, x -> x.work(3, -1, 5));
        Twin.refuses("no person before no other hour", Check.BOUNDS, OFFICE, x -> x.work(3, 5, 1000));
    }

    private static void most() {
        noSuchPerson("mostInDay", (x, person) -> x.mostInDay(person));
        noSuchPerson("mostInDayByHours", (x, person) -> x.mostInDayByHours(person));
        noSuchPerson("mostInWeek", (x, person) -> x.mostInWeek(person));
        noSuchPerson("mostInWeekByHours", (x, person) -> x.mostInWeekByHours(person));
        Twin.asks("the last person", 3, OFFICE, x -> x.mostInDay(2));
    }

    /** "hours: the length of the sailing, 1 to 12; its start plus its length is at most 999" */
    private static void nextStart() {
        noSuchPerson("nextStart", (x, person) -> x.nextStart(person, 1));
        refuses("nextStart for hours", Check.ARGUMENT, OFFICE, (x, hours) -> x.nextStart(0, hours), 0, -1, 13,
                Integer.MIN_VALUE, Integer.MAX_VALUE);
        Twin.asks("an hour", 6, OFFICE, x -> x.nextStart(0, 1));
        Twin.asks("twelve hours", 6, OFFICE, x -> x.nextStart(1, 12));
        Twin.Making at986 = x -> {
            OFFICE.make(x);
            Make.hours(x, 981);
        };
        Twin.Making at987 = x -> {
            OFFICE.make(x);
            Make.hours(x, 982);
        };
        Twin.asks("twelve hours up to 999", 987, at986, x -> x.nextStart(0, 12));
        Twin.refuses("twelve hours up to 1000", Check.MISSING, at987, x -> x.nextStart(0, 12));
        Twin.asks("eleven hours up to 999", 988, at987, x -> x.nextStart(0, 11));
        Twin.asks("the last hour of all", 998, x -> {
            OFFICE.make(x);
            Make.hours(x, 992);
        }, x -> x.nextStart(0, 1));
        Twin.refuses("no hour left", Check.MISSING, x -> {
            OFFICE.make(x);
            Make.hours(x, 993);
        }, x -> x.nextStart(0, 1));
        Twin.refuses("no person before no hours", Check.BOUNDS, OFFICE, x -> x.nextStart(3, 0));
        Twin.refuses("no person before no start", Check.BOUNDS, at987, x -> x.nextStart(3, 12));
        Twin.refuses("no hours before no start", Check.ARGUMENT, at987, x -> x.nextStart(0, 13));
    }

    private static void workShare() {
        noSuchPerson("workShare", (x, person) -> x.workShare(person));
        Twin.refuses("at the hour 0", Check.ARITHMETIC, BARE, x -> x.workShare(2));
        Twin.refuses("no person before the hour 0", Check.BOUNDS, BARE, x -> x.workShare(3));
        Twin.asks("at the hour 1", 0f, x -> {
            BARE.make(x);
            x.pass(1);
        }, x -> x.workShare(2));
    }
}
