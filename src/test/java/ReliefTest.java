/** Promises 21 and 22: the relief of a sailing, and of all. */
public final class ReliefTest {
    public static void main(String[] args) {
        takesTheLowestPeople();
        keepsThosePresent();
        fewestChangesComeFirst();
        movesPeopleBetweenPosts();
        isGivenToACompleteSailing();
        isRefused();
        takesDifferentPeople();
        nothingShort();
        onlyTheFirstFour();
        fifthHasNoSay();
        fewestCancelled();
        cancelledOnesSetPeopleFree();
        laterOneFirst();
        fewestChangesOfAll();
        firstOrderOfSeveral();
        orderOfNumbersAtOneStart();
        changesOfCancelledSailingsAreLeftOut();
        Check.end("ReliefTest");
    }

    private static Ferryroster with(int... kindsOfPeople) {
        Ferryroster x = new Ferryroster();
        for (int person = 0; person < kindsOfPeople.length; person++) {
            x.addPerson();
            for (int kind = 0; kind < 4; kind++) {
                if ((kindsOfPeople[person] >> kind & 1) != 0) {
                    x.grant(person, kind, 60);
                }
            }
        }
        return x;
    }

    private static void ship(Ferryroster x, int... kinds) {
        int ship = x.addShip(kinds[0]);
        for (int post = 1; post < kinds.length; post++) {
            x.addPost(ship, kinds[post]);
        }
    }

    /** Nobody has sailed in these tests: a sailing with people is planned. */
    private static void crew(Ferryroster x, int sailing, int... people) {
        Check.due("state of sailing " + sailing, x.stateOf(sailing), 'p');
        for (int post = 0; post < people.length; post++) {
            Check.due("sailing " + sailing + " post " + post, x.personOn(sailing, post), people[post]);
        }
    }

    private static void takesTheLowestPeople() {
        Ferryroster x = with(2, 3, 1, 3, 3);
        ship(x, 0, 0, 1);
        x.plan(0, 5, 2);
        Check.due("three changes", x.relieve(0), 3);
        crew(x, 0, 1, 2, 0);
        Ferryroster y = with(3, 3, 1);
        ship(y, 0, 1);
        y.plan(0, 5, 2);
        y.relieve(0);
        crew(y, 0, 0, 1);
    }

    private static void keepsThosePresent() {
        Ferryroster x = with(3, 3, 3, 3);
        ship(x, 0, 1);
        x.plan(0, 5, 2);
        x.assign(0, 1, 3);
        Check.due("one change", x.relieve(0), 1);
        crew(x, 0, 0, 3);
        x.callSick(0, 1);
        Check.due("one sick", x.relieve(0), 1);
        crew(x, 0, 1, 3);
        Check.due("no work of the sick one", x.work(0, 0, 24), 0);
        Check.due("work of the other one", x.work(1, 0, 24), 2);
    }

    /** Person 2 stays on the post 1, though person 1 is lower. */
    private static void fewestChangesComeFirst() {
        Ferryroster x = with(3, 2, 3);
        ship(x, 0, 1);
        x.plan(0, 5, 2);
        x.assign(0, 1, 2);
        Check.due("one change", x.relieve(0), 1);
        crew(x, 0, 0, 2);
        x.callSick(0, 1);
        Check.due("two changes, as person 1 has one kind only", x.relieve(0), 2);
        crew(x, 0, 2, 1);
    }

    private static void movesPeopleBetweenPosts() {
        Ferryroster x = with(3, 3);
        ship(x, 0, 1);
        x.plan(0, 5, 2);
        x.grant(1, 2, 5);
        ship(x, 2, 0, 1);
        x.plan(1, 8, 2);
        x.assign(1, 1, 1);
        Check.fails("two for three posts", Check.UNSUPPORTED, () -> x.relieve(1));
        crew(x, 1, -1, 1, -1);
        x.addPerson();
        x.grant(2, 1, 5);
        Check.due("person 1 moves, the others come", x.relieve(1), 3);
        crew(x, 1, 1, 0, 2);
        Check.due("work of person 1 counts once", x.work(1, 0, 24), 2);
        Check.yes("sound", x.isSound());
    }

    private static void isGivenToACompleteSailing() {
        Ferryroster x = with(1, 1, 1);
        ship(x, 0, 0);
        x.plan(0, 5, 2);
        x.assign(0, 0, 2);
        x.assign(0, 1, 1);
        Check.due("no changes", x.relieve(0), 0);
        crew(x, 0, 2, 1);
    }

    private static void isRefused() {
        Ferryroster x = with(1);
        Check.fails("no sailing", Check.MISSING, () -> x.relieve(0));
        ship(x, 0);
        ship(x, 1);
        x.plan(0, 5, 2);
        x.plan(1, 5, 2);
        x.plan(0, 8, 2);
        x.cancel(2);
        Check.fails("nobody for the post", Check.UNSUPPORTED, () -> x.relieve(1));
        Check.fails("cancelled", Check.STATE, () -> x.relieve(2));
        x.assign(0, 0, 0);
        x.callSick(0, 1);
        Check.fails("only a sick person", Check.UNSUPPORTED, () -> x.relieve(0));
        crew(x, 0, 0);
        Check.due("still planned", x.stateOf(0), 'p');
        x.recover(0);
        x.pass(5);
        Check.fails("sailed", Check.STATE, () -> x.relieve(0));
        for (int wild : Check.WILD) {
            Check.fails("sailing " + wild, Check.MISSING, () -> x.relieve(wild));
        }
    }

    private static void takesDifferentPeople() {
        Ferryroster x = with(1, 0);
        ship(x, 0, 0);
        x.plan(0, 5, 2);
        Check.fails("one person for two posts", Check.UNSUPPORTED, () -> x.relieve(0));
        x.grant(1, 0, 2);
        Check.due("two people", x.relieve(0), 2);
        crew(x, 0, 0, 1);
    }

    private static void nothingShort() {
        Ferryroster x = with(1, 1);
        Check.due("no sailings", x.relieveAll(), 0);
        ship(x, 0);
        x.plan(0, 5, 2);
        x.assign(0, 0, 1);
        Check.due("one complete", x.relieveAll(), 0);
        crew(x, 0, 1);
        x.release(0, 0);
        Check.due("one short", x.relieveAll(), 0);
        crew(x, 0, 0);
        x.callSick(0, 1);
        x.callSick(1, 1);
        Check.due("nobody left", x.relieveAll(), 1);
        Check.due("cancelled", x.stateOf(0), 'c');
        Check.due("nobody works", x.work(0, 0, 24), 0);
        Check.due("nothing left", x.relieveAll(), 0);
    }

    /** The four earliest, whatever their numbers; the others stay as they are. */
    private static void onlyTheFirstFour() {
        Ferryroster x = with(1);
        ship(x, 0);
        int[] starts = {200, 100, 300, 50, 250, 150};
        for (int start : starts) {
            x.plan(0, start, 2);
        }
        Check.due("no cancelled ones", x.relieveAll(), 0);
        int[] due = {0, 0, -1, 0, -1, 0};
        for (int sailing = 0; sailing < 6; sailing++) {
            crew(x, sailing, due[sailing]);
        }
        Check.due("two left", x.shortSailings(), 2);
        Check.due("the others", x.relieveAll(), 0);
        Check.due("none left", x.shortSailings(), 0);
        x.callSick(0, 20);
        Check.due("four of six", x.relieveAll(), 4);
        Check.due("two planned", x.sailings('p'), 2);
        Check.due("the two others", x.relieveAll(), 2);
        Check.due("all cancelled", x.sailings('c'), 6);
    }

    /** The first one takes the hours of the last two, but these are not looked at. */
    private static void fifthHasNoSay() {
        Ferryroster x = with(1, 2);
        ship(x, 0);
        ship(x, 1);
        ship(x, 0);
        x.plan(0, 10, 12);
        x.plan(1, 11, 1);
        x.plan(1, 12, 1);
        x.plan(1, 13, 1);
        x.plan(2, 14, 2);
        x.plan(2, 16, 2);
        Check.due("none cancelled", x.relieveAll(), 0);
        int[] due = {0, 1, 1, 1, -1, -1};
        for (int sailing = 0; sailing < due.length; sailing++) {
            crew(x, sailing, due[sailing]);
        }
        Check.due("the two others", x.relieveAll(), 2);
    }

    /** The long one in the middle would take the hours of the two others. */
    private static void fewestCancelled() {
        Ferryroster x = with(1);
        ship(x, 0);
        ship(x, 0);
        x.plan(0, 10, 12);
        x.plan(1, 12, 3);
        x.plan(1, 15, 3);
        Check.due("only the long one", x.relieveAll(), 1);
        Check.due("cancelled", x.stateOf(0), 'c');
        crew(x, 1, 0);
        crew(x, 2, 0);
    }

    /** The first sailing needs someone who does not exist; when it is cancelled its other person can go elsewhere. */
    private static void cancelledOnesSetPeopleFree() {
        Ferryroster x = with(1);
        ship(x, 0, 1);
        ship(x, 0);
        x.plan(0, 10, 6);
        x.plan(1, 8, 6);
        x.assign(0, 0, 0);
        Check.due("one without people", x.relieveAll(), 1);
        Check.due("the one with two posts", x.stateOf(0), 'c');
        crew(x, 1, 0);
    }

    /** In the order of the starts, person 0 would go on the first sailing, and nobody would be left for the second. */
    private static void laterOneFirst() {
        Ferryroster x = with(3, 1, 2, 4);
        ship(x, 0);
        ship(x, 1, 2);
        x.plan(0, 10, 4);
        x.plan(1, 11, 4);
        x.assign(1, 0, 2);
        x.callSick(2, 1);
        Check.due("no sailing is cancelled", x.relieveAll(), 0);
        crew(x, 0, 1);
        crew(x, 1, 0, 3);
    }

    /**
     * In the order of the starts, person 0 would go on the first sailing, and the second one would change both of its
     * posts, three changes of all; in the other order there are two.
     */
    private static void fewestChangesOfAll() {
        Ferryroster x = with(2 + 4, 4, 1 + 2, 1);
        ship(x, 2);
        ship(x, 0, 1);
        x.plan(0, 10, 4);
        x.plan(1, 11, 4);
        x.assign(1, 0, 2);
        Check.due("no sailing is cancelled", x.relieveAll(), 0);
        crew(x, 0, 1);
        crew(x, 1, 2, 0);
    }

    /** Both orders have the same numbers: the earlier sailing gets the lowest person. */
    private static void firstOrderOfSeveral() {
        Ferryroster x = with(1, 1);
        ship(x, 0);
        ship(x, 0);
        x.plan(0, 12, 4);
        x.plan(1, 10, 4);
        Check.due("none cancelled", x.relieveAll(), 0);
        crew(x, 0, 1);
        crew(x, 1, 0);
        Ferryroster y = with(1);
        ship(y, 0);
        ship(y, 0);
        y.plan(0, 12, 4);
        y.plan(1, 10, 4);
        Check.due("one cancelled", y.relieveAll(), 1);
        Check.due("the later one", y.stateOf(0), 'c');
        crew(y, 1, 0);
        Ferryroster z = with(1, 1, 1);
        for (int ship = 0; ship < 4; ship++) {
            ship(z, 0);
            z.plan(ship, 20 - ship, 8);
        }
        Check.due("three people for four", z.relieveAll(), 1);
        crew(z, 3, 0);
        crew(z, 2, 1);
        crew(z, 1, 2);
        Check.due("the last one", z.stateOf(0), 'c');
    }

    private static void orderOfNumbersAtOneStart() {
        Ferryroster x = with(1, 1, 1, 1);
        ship(x, 0);
        ship(x, 0);
        ship(x, 0);
        ship(x, 0);
        x.plan(3, 10, 4);
        x.plan(1, 10, 4);
        x.plan(0, 9, 4);
        x.plan(2, 10, 4);
        x.plan(0, 30, 4);
        Check.due("none cancelled", x.relieveAll(), 0);
        crew(x, 2, 0);
        crew(x, 0, 1);
        crew(x, 1, 2);
        crew(x, 3, 3);
        crew(x, 4, -1);
        Ferryroster y = with(1, 1, 1, 1, 1);
        for (int ship = 0; ship < 4; ship++) {
            ship(y, 0);
            y.plan(ship, 10, 4);
        }
        y.plan(0, 14, 4);
        y.relieveAll();
        crew(y, 3, 3);
        crew(y, 4, -1);
    }

    /**
     * Either of two orders cancels one of the two sailings. The first one has three posts, the second one has two and
     * one change fewer; what changed on the sailing that is cancelled does not count.
     */
    private static void changesOfCancelledSailingsAreLeftOut() {
        Ferryroster x = with(1, 1, 1);
        ship(x, 0, 0, 0);
        ship(x, 0, 0);
        x.plan(0, 10, 4);
        x.plan(1, 12, 4);
        Check.due("one cancelled", x.relieveAll(), 1);
        Check.due("three changes are more than two", x.stateOf(0), 'c');
        crew(x, 1, 0, 1);
        Ferryroster y = with(1, 1, 1);
        ship(y, 0, 0, 0);
        ship(y, 0, 0);
        y.plan(0, 10, 4);
        y.plan(1, 12, 4);
        y.assign(0, 0, 2);
        y.assign(0, 1, 1);
        Check.due("one cancelled", y.relieveAll(), 1);
        crew(y, 0, 2, 1, 0);
        Check.due("one change is less than two", y.stateOf(1), 'c');
    }
}
