/** Promises 15 to 20 and 23 to 29: ships, sailings, posts, and the questions about them. */
public final class SailingTest {
    public static void main(String[] args) {
        addShip();
        addPost();
        plan();
        planIsRefused();
        planOverOthers();
        assign();
        assignIsRefused();
        release();
        cancel();
        stateOfAndPersonOn();
        isComplete();
        reasonsInOrder();
        reasonOfCertificates();
        reasonOfDays();
        reasonOfRows();
        reasonOfOtherRows();
        reasonOfRowsNextToIt();
        reasonTakesOwnPostsAsOpen();
        reasonIsRefused();
        fitting();
        shortSailings();
        sailings();
        Check.end("SailingTest");
    }

    /** An office with people who have certificates of all kinds up to the day 59. */
    private static Ferryroster with(int people) {
        Ferryroster x = new Ferryroster();
        for (int person = 0; person < people; person++) {
            x.addPerson();
            for (int kind = 0; kind < 4; kind++) {
                x.grant(person, kind, 60);
            }
        }
        return x;
    }

    private static void addShip() {
        Ferryroster x = new Ferryroster();
        Check.fails("kind -1", Check.ARGUMENT, () -> x.addShip(-1));
        Check.fails("kind 4", Check.ARGUMENT, () -> x.addShip(4));
        for (int ship = 0; ship < 4; ship++) {
            Check.due("the number of a ship", x.addShip(3 - ship), ship);
        }
        Check.fails("a fifth ship", Check.STATE, () -> x.addShip(0));
        for (int wild : Check.WILD) {
            Check.fails("a wrong kind comes first: " + wild, Check.ARGUMENT, () -> x.addShip(wild));
        }
        x.plan(0, 5, 1);
        Check.due("one post", x.personOn(0, 0), -1);
        Check.fails("no other post", Check.BOUNDS, () -> x.personOn(0, 1));
        x.addPerson();
        x.grant(0, 3, 5);
        Check.due("the post of ship 0 needs kind 3", x.reason(0, 0, 0), Ferryroster.FITS);
        x.plan(1, 5, 1);
        Check.due("the post of ship 1 needs kind 2", x.reason(1, 0, 0), Ferryroster.NO_CERTIFICATE);
    }

    private static void addPost() {
        Ferryroster x = new Ferryroster();
        x.addShip(0);
        x.addShip(0);
        Check.due("two posts", x.addPost(0, 1), 2);
        Check.due("three posts", x.addPost(0, 2), 3);
        Check.fails("four posts", Check.STATE, () -> x.addPost(0, 3));
        Check.fails("a wrong kind comes before four posts", Check.ARGUMENT, () -> x.addPost(0, 4));
        Check.fails("no ship comes before a wrong kind", Check.BOUNDS, () -> x.addPost(2, 4));
        Check.fails("kind -1", Check.ARGUMENT, () -> x.addPost(1, -1));
        for (int wild : Check.WILD) {
            Check.fails("ship " + wild, Check.BOUNDS, () -> x.addPost(wild, 0));
            Check.fails("kind " + wild, Check.ARGUMENT, () -> x.addPost(1, wild));
        }
        x.plan(1, 5, 1);
        Check.fails("a planned sailing", Check.STATE, () -> x.addPost(1, 0));
        x.cancel(0);
        Check.fails("a cancelled sailing", Check.STATE, () -> x.addPost(1, 0));
        Check.fails("still one post", Check.BOUNDS, () -> x.personOn(0, 1));
        x.plan(0, 5, 1);
        x.addPerson();
        x.grant(0, 2, 5);
        Check.due("post 1 needs kind 1", x.reason(1, 1, 0), Ferryroster.NO_CERTIFICATE);
        Check.due("post 2 needs kind 2", x.reason(1, 2, 0), Ferryroster.FITS);
        Ferryroster y = with(1);
        y.addShip(0);
        y.plan(0, 1, 1);
        y.assign(0, 0, 0);
        y.pass(1);
        Check.due("sailed", y.stateOf(0), 's');
        Check.fails("a sailing that has sailed", Check.STATE, () -> y.addPost(0, 0));
    }

    private static void plan() {
        Ferryroster x = new Ferryroster();
        x.addShip(0);
        x.addPost(0, 0);
        x.pass(10);
        Check.due("the next hour", x.plan(0, 11, 1), 0);
        Check.due("twelve hours", x.plan(0, 12, 12), 1);
        Check.due("up to 999", x.plan(0, 998, 1), 2);
        Check.due("planned", x.stateOf(0), 'p');
        Check.due("open", x.personOn(0, 0), -1);
        Check.due("open, too", x.personOn(0, 1), -1);
        for (int number = 3; number < 24; number++) {
            Check.due("the number of a sailing", x.plan(0, 30 + number, 1), number);
        }
        Check.fails("a sailing too many", Check.STATE, () -> x.plan(0, 100, 1));
        x.cancel(5);
        Check.fails("cancelled ones count, too", Check.STATE, () -> x.plan(0, 100, 1));
        Check.fails("out of range comes first", Check.ARGUMENT, () -> x.plan(0, 100, 13));
    }

    private static void planIsRefused() {
        Ferryroster x = new Ferryroster();
        Check.fails("no ship at all", Check.BOUNDS, () -> x.plan(0, 5, 1));
        x.addShip(0);
        x.pass(10);
        Check.fails("the present hour", Check.ARGUMENT, () -> x.plan(0, 10, 1));
        Check.fails("an hour before", Check.ARGUMENT, () -> x.plan(0, 9, 1));
        Check.fails("0 hours", Check.ARGUMENT, () -> x.plan(0, 11, 0));
        Check.fails("13 hours", Check.ARGUMENT, () -> x.plan(0, 11, 13));
        Check.fails("up to 1000", Check.ARGUMENT, () -> x.plan(0, 999, 1));
        Check.fails("up to 1000, too", Check.ARGUMENT, () -> x.plan(0, 988, 12));
        Check.fails("no ship comes first", Check.BOUNDS, () -> x.plan(1, 10, 0));
        for (int wild : Check.WILD) {
            Check.fails("ship " + wild, Check.BOUNDS, () -> x.plan(wild, 11, 1));
            Check.fails("start " + wild, Check.ARGUMENT, () -> x.plan(0, wild, 1));
            Check.fails("hours " + wild, Check.ARGUMENT, () -> x.plan(0, 11, wild));
        }
        Check.due("nothing was planned", x.sailings('p'), 0);
        Check.due("up to 999", x.plan(0, 987, 12), 0);
    }

    private static void planOverOthers() {
        Ferryroster x = with(1);
        x.addShip(0);
        x.addShip(0);
        x.plan(0, 20, 5);
        Check.fails("the same hours", Check.STATE, () -> x.plan(0, 20, 5));
        Check.fails("the first hour", Check.STATE, () -> x.plan(0, 15, 6));
        Check.fails("the last hour", Check.STATE, () -> x.plan(0, 24, 1));
        Check.fails("hours inside", Check.STATE, () -> x.plan(0, 21, 2));
        Check.fails("hours around", Check.STATE, () -> x.plan(0, 18, 10));
        Check.due("right before", x.plan(0, 15, 5), 1);
        Check.due("right after", x.plan(0, 25, 5), 2);
        Check.due("another ship", x.plan(1, 20, 5), 3);
        x.cancel(0);
        Check.due("in place of a cancelled one", x.plan(0, 20, 5), 4);
        x.assign(4, 0, 0);
        x.pass(20);
        Check.due("sailed", x.stateOf(4), 's');
        Check.fails("over one that has sailed", Check.STATE, () -> x.plan(0, 24, 1));
    }

    private static void assign() {
        Ferryroster x = with(3);
        x.addShip(0);
        x.addPost(0, 1);
        x.plan(0, 5, 4);
        Check.due("on an open post", x.assign(0, 1, 2), -1);
        Check.due("has the post", x.personOn(0, 1), 2);
        Check.due("works", x.work(2, 0, 24), 4);
        Check.due("in place of another person", x.assign(0, 1, 0), 2);
        Check.due("has it now", x.personOn(0, 1), 0);
        Check.due("works now", x.work(0, 0, 24), 4);
        Check.due("does not work any more", x.work(2, 0, 24), 0);
        Check.due("the other post", x.assign(0, 0, 2), -1);
        Check.due("the first post stays", x.personOn(0, 1), 0);
    }

    private static void assignIsRefused() {
        Ferryroster x = with(2);
        x.addPerson();
        x.addShip(0);
        x.addPost(0, 1);
        Check.fails("no sailing comes first", Check.MISSING, () -> x.assign(0, 9, 9));
        x.plan(0, 5, 4);
        x.plan(0, 9, 4);
        x.cancel(1);
        Check.fails("no post comes second", Check.BOUNDS, () -> x.assign(1, 2, 0));
        Check.fails("no person comes second", Check.BOUNDS, () -> x.assign(1, 0, 3));
        Check.fails("not planned comes third", Check.STATE, () -> x.assign(1, 0, 2));
        x.assign(0, 0, 0);
        Check.fails("on another post", Check.ARGUMENT, () -> x.assign(0, 1, 0));
        Check.fails("on this post", Check.ARGUMENT, () -> x.assign(0, 0, 0));
        Check.fails("does not fit", Check.UNSUPPORTED, () -> x.assign(0, 0, 2));
        x.callSick(0, 1);
        Check.fails("on the sailing comes before not fitting", Check.ARGUMENT, () -> x.assign(0, 1, 0));
        x.callSick(1, 1);
        Check.fails("is sick", Check.UNSUPPORTED, () -> x.assign(0, 0, 1));
        for (int wild : Check.WILD) {
            Check.fails("sailing " + wild, Check.MISSING, () -> x.assign(wild, 0, 1));
            Check.fails("post " + wild, Check.BOUNDS, () -> x.assign(0, wild, 1));
            Check.fails("person " + wild, Check.BOUNDS, () -> x.assign(0, 0, wild));
        }
        Check.due("nothing was changed", x.personOn(0, 0), 0);
        Check.due("nothing here either", x.personOn(0, 1), -1);
        x.recover(0);
        x.recover(1);
        x.assign(0, 1, 1);
        x.pass(5);
        Check.fails("has sailed", Check.STATE, () -> x.assign(0, 0, 1));
        Check.fails("has sailed, but no such post", Check.BOUNDS, () -> x.assign(0, 2, 1));
    }

    private static void release() {
        Ferryroster x = with(2);
        x.addShip(0);
        x.addPost(0, 1);
        Check.fails("no sailing", Check.MISSING, () -> x.release(0, 9));
        x.plan(0, 5, 4);
        x.assign(0, 0, 1);
        x.assign(0, 1, 0);
        Check.due("the person who had it", x.release(0, 0), 1);
        Check.due("open now", x.personOn(0, 0), -1);
        Check.due("no work any more", x.work(1, 0, 24), 0);
        Check.due("the other post stays", x.personOn(0, 1), 0);
        Check.fails("open already", Check.STATE, () -> x.release(0, 0));
        Check.fails("no such post", Check.BOUNDS, () -> x.release(0, 2));
        for (int wild : Check.WILD) {
            Check.fails("sailing " + wild, Check.MISSING, () -> x.release(wild, 0));
            Check.fails("post " + wild, Check.BOUNDS, () -> x.release(0, wild));
        }
        x.assign(0, 0, 1);
        x.pass(5);
        Check.fails("has sailed", Check.STATE, () -> x.release(0, 0));
        Check.fails("has sailed, and no such post", Check.BOUNDS, () -> x.release(0, 2));
        Check.due("stays on it", x.personOn(0, 0), 1);
    }

    private static void cancel() {
        Ferryroster x = with(3);
        x.addShip(0);
        x.addPost(0, 1);
        x.addPost(0, 1);
        x.plan(0, 5, 4);
        x.plan(0, 10, 4);
        x.plan(0, 15, 2);
        x.assign(0, 0, 1);
        x.assign(0, 2, 0);
        x.assign(2, 0, 0);
        x.assign(2, 1, 1);
        x.assign(2, 2, 2);
        Check.due("two people", x.cancel(0), 2);
        Check.due("cancelled", x.stateOf(0), 'c');
        Check.due("post 0 is open", x.personOn(0, 0), -1);
        Check.due("post 2 is open", x.personOn(0, 2), -1);
        Check.due("their work is gone", x.work(1, 0, 10), 0);
        Check.due("nobody", x.cancel(1), 0);
        Check.fails("cancelled already", Check.STATE, () -> x.cancel(0));
        Check.fails("no such sailing", Check.MISSING, () -> x.cancel(3));
        for (int wild : Check.WILD) {
            Check.fails("sailing " + wild, Check.MISSING, () -> x.cancel(wild));
        }
        x.pass(15);
        Check.fails("has sailed", Check.STATE, () -> x.cancel(2));
        Check.due("still sailed", x.stateOf(2), 's');
    }

    private static void stateOfAndPersonOn() {
        Ferryroster x = with(1);
        Check.fails("no sailing", Check.MISSING, () -> x.stateOf(0));
        Check.fails("no sailing and no post", Check.MISSING, () -> x.personOn(0, 5));
        x.addShip(0);
        x.plan(0, 5, 4);
        x.plan(0, 10, 4);
        Check.due("planned", x.stateOf(0), 'p');
        x.assign(0, 0, 0);
        Check.due("the person", x.personOn(0, 0), 0);
        Check.due("nobody", x.personOn(1, 0), -1);
        Check.fails("no post 1", Check.BOUNDS, () -> x.personOn(0, 1));
        x.pass(10);
        Check.due("sailed", x.stateOf(0), 's');
        Check.due("cancelled", x.stateOf(1), 'c');
        Check.due("the person who sailed", x.personOn(0, 0), 0);
        for (int wild : Check.WILD) {
            Check.fails("state of " + wild, Check.MISSING, () -> x.stateOf(wild));
            Check.fails("person on " + wild, Check.MISSING, () -> x.personOn(wild, 0));
            Check.fails("post " + wild, Check.BOUNDS, () -> x.personOn(0, wild));
        }
    }

    private static void isComplete() {
        Ferryroster x = with(2);
        Check.fails("no sailing", Check.MISSING, () -> x.isComplete(0));
        x.addShip(0);
        x.addPost(0, 1);
        x.plan(0, 5, 4);
        x.plan(0, 10, 4);
        Check.no("nobody", x.isComplete(0));
        x.assign(0, 1, 0);
        Check.no("one of two", x.isComplete(0));
        x.assign(0, 0, 1);
        Check.yes("both", x.isComplete(0));
        x.callSick(0, 1);
        Check.no("one is sick", x.isComplete(0));
        x.recover(0);
        Check.yes("one is well again", x.isComplete(0));
        x.cancel(1);
        Check.fails("cancelled", Check.STATE, () -> x.isComplete(1));
        x.pass(5);
        Check.fails("sailed", Check.STATE, () -> x.isComplete(0));
        for (int wild : Check.WILD) {
            Check.fails("sailing " + wild, Check.MISSING, () -> x.isComplete(wild));
        }
    }

    /** All reasons hold at first, and are taken away one after the other. */
    private static void reasonsInOrder() {
        Ferryroster x = new Ferryroster();
        x.addPerson();
        x.grant(0, 1, 60);
        x.addShip(0);
        x.addShip(1);
        x.addShip(1);
        x.plan(0, 30, 4);
        x.plan(1, 33, 4);
        x.plan(2, 40, 4);
        x.plan(2, 100, 4);
        x.assign(1, 0, 0);
        x.assign(2, 0, 0);
        x.assign(3, 0, 0);
        x.enroll(0, 0, 1, 1);
        x.callSick(0, 2);
        x.setDayRule(7);
        x.setWeekRule(11);
        Check.due("first", x.reason(0, 0, 0), Ferryroster.NO_CERTIFICATE);
        x.grant(0, 0, 60);
        Check.due("second", x.reason(0, 0, 0), Ferryroster.SICK);
        x.recover(0);
        Check.due("third", x.reason(0, 0, 0), Ferryroster.ON_COURSE);
        x.leaveCourse(0);
        Check.due("fourth", x.reason(0, 0, 0), Ferryroster.ELSEWHERE);
        x.release(1, 0);
        Check.due("fifth", x.reason(0, 0, 0), Ferryroster.DAY_RULE);
        x.setDayRule(8);
        Check.due("sixth", x.reason(0, 0, 0), Ferryroster.WEEK_RULE);
        x.setWeekRule(12);
        Check.due("none", x.reason(0, 0, 0), Ferryroster.FITS);
    }

    private static void reasonOfCertificates() {
        Ferryroster x = new Ferryroster();
        x.addPerson();
        x.addPerson();
        x.addShip(2);
        x.plan(0, 60, 2);
        x.plan(0, 70, 2);
        x.plan(0, 72, 1);
        x.plan(0, 47, 2);
        x.addShip(2);
        x.plan(1, 71, 2);
        Check.due("none at all", x.reason(0, 0, 0), Ferryroster.NO_CERTIFICATE);
        x.grant(0, 1, 60);
        Check.due("another kind", x.reason(0, 0, 0), Ferryroster.NO_CERTIFICATE);
        x.grant(0, 2, 3);
        Check.due("valid on day 2", x.reason(0, 0, 0), Ferryroster.FITS);
        Check.due("up to its last hour", x.reason(1, 0, 0), Ferryroster.FITS);
        Check.due("not on day 3", x.reason(2, 0, 0), Ferryroster.NO_CERTIFICATE);
        Check.due("not on the days 2 and 3", x.reason(4, 0, 0), Ferryroster.NO_CERTIFICATE);
        Check.due("but on the days 1 and 2", x.reason(3, 0, 0), Ferryroster.FITS);
        x.enroll(1, 2, 1, 1);
        x.pass(46);
        Check.due("another person has none yet", x.reason(4, 0, 1), Ferryroster.NO_CERTIFICATE);
        x.pass(2);
        Check.due("valid from day 2 on", x.reason(4, 0, 1), Ferryroster.FITS);
    }

    /** The days of a sailing from 46 to 50 are 1 and 2. */
    private static void reasonOfDays() {
        for (int day = 0; day < 4; day++) {
            Ferryroster x = with(2);
            x.addShip(0);
            x.plan(0, 46, 4);
            x.pass(1);
            if (day > 0) {
                x.enroll(1, 0, day, 1);
            }
            boolean within = day == 1 || day == 2;
            Check.due("on a course on day " + day, x.reason(0, 0, 1),
                    within ? Ferryroster.ON_COURSE : Ferryroster.FITS);
            x.callSick(0, day + 1);
            Check.due("sick up to day " + day, x.reason(0, 0, 0), day >= 1 ? Ferryroster.SICK : Ferryroster.FITS);
        }
        Ferryroster y = with(1);
        y.addShip(0);
        y.plan(0, 44, 4);
        y.enroll(0, 0, 2, 1);
        Check.due("its last hour is the last one of day 1", y.reason(0, 0, 0), Ferryroster.FITS);
    }

    private static void reasonOfRows() {
        Ferryroster x = with(1);
        x.addShip(0);
        x.addShip(0);
        x.setDayRule(10);
        x.plan(0, 100, 6);
        x.assign(0, 0, 0);
        int[] starts = {119, 118, 120, 83, 82, 81, 106, 95};
        int[] reasons = {
            Ferryroster.DAY_RULE, Ferryroster.DAY_RULE, Ferryroster.FITS,
            Ferryroster.DAY_RULE, Ferryroster.DAY_RULE, Ferryroster.FITS,
            Ferryroster.DAY_RULE, Ferryroster.DAY_RULE,
        };
        for (int i = 0; i < starts.length; i++) {
            x.plan(1, starts[i], 5);
            int number = i + 1;
            Check.due("5 hours from " + starts[i], x.reason(number, 0, 0), reasons[i]);
            x.cancel(number);
        }
        x.setDayRule(11);
        x.plan(1, 106, 5);
        Check.due("just 11 hours", x.reason(9, 0, 0), Ferryroster.FITS);
        x.cancel(9);
        x.setDayRule(24);
        x.setWeekRule(7);
        x.plan(1, 100 + 168 - 2, 2);
        Check.due("the last of 168 hours", x.reason(10, 0, 0), Ferryroster.WEEK_RULE);
        x.cancel(10);
        x.plan(1, 100 + 168 - 1, 3);
        Check.due("168 hours with 6 and 1, or 5 and 2", x.reason(11, 0, 0), Ferryroster.FITS);
        x.cancel(11);
        x.plan(1, 100 + 168 - 1, 4);
        Check.due("168 hours with 4 and 4", x.reason(12, 0, 0), Ferryroster.FITS);
        x.setWeekRule(6);
        Check.due("168 hours with 6 and 1", x.reason(12, 0, 0), Ferryroster.WEEK_RULE);
    }

    /** Too much work elsewhere is no reason against a sailing that no such row touches. */
    private static void reasonOfOtherRows() {
        Ferryroster x = with(1);
        x.addShip(0);
        x.plan(0, 100, 6);
        x.plan(0, 300, 2);
        x.assign(0, 0, 0);
        x.setDayRule(5);
        x.setWeekRule(5);
        Check.due("rows without the sailing do not matter", x.reason(1, 0, 0), Ferryroster.FITS);
        Check.due("the other sailing itself", x.reason(0, 0, 0), Ferryroster.DAY_RULE);
    }

    /** A row with too much work that stops just before the sailing, or begins just after it. */
    private static void reasonOfRowsNextToIt() {
        int[][] starts = {{11, 13, 35}, {50, 39, 25}};
        for (int[] start : starts) {
            Ferryroster x = with(1);
            x.addShip(0);
            x.plan(0, start[0], 1);
            x.plan(0, start[1], 10);
            x.plan(0, start[2], 2);
            x.assign(1, 0, 0);
            x.assign(2, 0, 0);
            x.setDayRule(11);
            Check.due("rows with it have 11 hours", x.reason(0, 0, 0), Ferryroster.FITS);
            Check.due("a row without it has 12", x.reason(1, 0, 0), Ferryroster.DAY_RULE);
            x.setDayRule(10);
            Check.due("11 hours are too many", x.reason(0, 0, 0), Ferryroster.DAY_RULE);
        }
    }

    private static void reasonTakesOwnPostsAsOpen() {
        Ferryroster x = with(1);
        x.addShip(0);
        x.addPost(0, 1);
        x.plan(0, 10, 8);
        x.assign(0, 0, 0);
        Check.due("on the own post", x.reason(0, 0, 0), Ferryroster.FITS);
        Check.due("on the other post", x.reason(0, 1, 0), Ferryroster.FITS);
        x.setDayRule(8);
        Check.due("the hours count once", x.reason(0, 1, 0), Ferryroster.FITS);
        x.setDayRule(7);
        Check.due("and they count", x.reason(0, 1, 0), Ferryroster.DAY_RULE);
    }

    private static void reasonIsRefused() {
        Ferryroster x = with(1);
        Check.fails("no sailing comes first", Check.MISSING, () -> x.reason(0, 5, 5));
        x.addShip(0);
        x.plan(0, 5, 2);
        x.plan(0, 8, 2);
        x.cancel(1);
        Check.fails("no post", Check.BOUNDS, () -> x.reason(1, 1, 0));
        Check.fails("no person", Check.BOUNDS, () -> x.reason(1, 0, 1));
        Check.fails("not planned", Check.STATE, () -> x.reason(1, 0, 0));
        for (int wild : Check.WILD) {
            Check.fails("sailing " + wild, Check.MISSING, () -> x.reason(wild, 0, 0));
            Check.fails("post " + wild, Check.BOUNDS, () -> x.reason(0, wild, 0));
            Check.fails("person " + wild, Check.BOUNDS, () -> x.reason(0, 0, wild));
        }
        x.assign(0, 0, 0);
        x.pass(5);
        Check.fails("sailed", Check.STATE, () -> x.reason(0, 0, 0));
    }

    private static void fitting() {
        Ferryroster x = with(2);
        Check.fails("no sailing comes first", Check.MISSING, () -> x.fitting(0, 5));
        x.addPerson();
        x.addPerson();
        x.grant(3, 1, 60);
        x.addShip(0);
        x.addPost(0, 1);
        x.plan(0, 5, 2);
        x.plan(0, 8, 2);
        x.cancel(1);
        Check.due("post 0", x.fitting(0, 0), 2);
        Check.due("post 1", x.fitting(0, 1), 3);
        x.assign(0, 0, 0);
        Check.due("those on the sailing, too", x.fitting(0, 1), 3);
        x.callSick(1, 1);
        Check.due("but not the sick", x.fitting(0, 1), 2);
        Check.fails("no post comes before not planned", Check.BOUNDS, () -> x.fitting(1, 2));
        Check.fails("not planned", Check.STATE, () -> x.fitting(1, 0));
        for (int wild : Check.WILD) {
            Check.fails("sailing " + wild, Check.MISSING, () -> x.fitting(wild, 0));
            Check.fails("post " + wild, Check.BOUNDS, () -> x.fitting(0, wild));
        }
    }

    private static void shortSailings() {
        Ferryroster x = with(1);
        x.addShip(0);
        for (int i = 0; i < 6; i++) {
            x.plan(0, 10 + 30 * i, 2);
        }
        Check.due("all of them, not four", x.shortSailings(), 6);
        x.assign(5, 0, 0);
        x.assign(0, 0, 0);
        Check.due("two are complete", x.shortSailings(), 4);
        x.cancel(3);
        Check.due("one is cancelled", x.shortSailings(), 3);
        x.callSick(0, 1);
        Check.due("one has a sick crew", x.shortSailings(), 4);
        x.recover(0);
        x.pass(10);
        Check.due("one has sailed", x.shortSailings(), 3);
    }

    private static void sailings() {
        Ferryroster x = with(1);
        x.addShip(0);
        for (int i = 0; i < 6; i++) {
            x.plan(0, 10 + 30 * i, 2);
        }
        x.assign(0, 0, 0);
        x.pass(10);
        x.cancel(4);
        x.cancel(5);
        Check.due("planned", x.sailings('p'), 3);
        Check.due("sailed", x.sailings('s'), 1);
        Check.due("cancelled", x.sailings('c'), 2);
        for (char state : new char[] {'a', 'P', 'S', 'C', ' ', 0, 255, Character.MAX_VALUE}) {
            Check.fails("state " + (int) state, Check.ARGUMENT, () -> x.sailings(state));
        }
    }
}
