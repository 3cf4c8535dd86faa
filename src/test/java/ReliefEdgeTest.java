/** Each sentence of Relief and of Relief of all, and of the promises 21 and 22, at the cases that it bounds. */
public final class ReliefEdgeTest {
    public static void main(String[] args) {
        justOneWay();
        noWay();
        nobodyFitsOnePost();
        differentPeople();
        fullOfPeople();
        numberOfChanges();
        changesOfPosts();
        fewestChangesBeforeTheLowest();
        lowestOnThePost0();
        lowestOnThePost1();
        lowestOnThePost2();
        reliefOfACompleteOne();
        reliefLeavesOthersAlone();
        reliefKeepsTheRules();
        nothingIsShort();
        completeOnesAreNotLookedAt();
        plannedOnesAlone();
        oneToFive();
        noWayForAny();
        fifthByItsStart();
        fifthByItsNumber();
        fifthIsCountedWithItsCrew();
        oneThatIsCompleteAgain();
        cancelledIfThereIsNoWay();
        cancelledSetsPeopleFree();
        fewestCancelledBeforeChanges();
        fewestChangesOfAllTogether();
        changesOfCancelledOnesAreLeftOut();
        firstStandsFirst();
        secondStandsFirst();
        thirdStandsFirst();
        eachOrderIsCompared();
        Check.end("ReliefEdgeTest");
    }

    /** People with certificates of these kinds: a bit for each kind. */
    private static Ferryroster with(int... kindsOfPeople) {
        Ferryroster x = new Ferryroster();
        for (int person = 0; person < kindsOfPeople.length; person++) {
            x.addPerson();
            for (int kind = 0; kind < 4; kind++) {
                if ((kindsOfPeople[person] >> kind & 1) != 0) {
                    x.grant(person, kind, 60);
                }
            }
        }
        return x;
    }

    private static void crew(Ferryroster x, int sailing, int... people) {
        for (int post = 0; post < people.length; post++) {
            Check.due("sailing " + sailing + " post " + post, x.personOn(sailing, post), people[post]);
        }
    }

    // ---- relief

    private static void justOneWay() {
        Ferryroster x = with(1 + 2 + 4, 1 + 2, 1);
        Make.ship(x, 0, 1, 2);
        x.plan(0, 5, 2);
        Check.due("each of the three on the only post for all", x.relieve(0), 3);
        crew(x, 0, 2, 1, 0);
    }

    /** "if there is no way to put people on all posts": two people for three posts; nothing is changed. */
    private static void noWay() {
        Twin.Making two = x -> {
            Make.people(x, 2);
            Make.ship(x, 0, 1, 2);
            Make.sail(x, 0, 5, 2, 1);
        };
        Twin.refuses("two people for three posts", Check.UNSUPPORTED, two, x -> x.relieve(0));
        Twin.answers("three people for three posts", 2, x -> {
            two.make(x);
            x.addPerson();
            x.grant(2, 2, 1);
        }, x -> x.relieve(0));
    }

    /** Two people for two posts, but neither for the post 1: "each of whom fits the post". */
    private static void nobodyFitsOnePost() {
        Twin.Making none = x -> {
            x.addPerson();
            x.addPerson();
            x.grant(0, 0, 9);
            x.grant(1, 0, 9);
            Make.ship(x, 0, 1);
            x.plan(0, 5, 2);
        };
        Twin.refuses("nobody for the post 1", Check.UNSUPPORTED, none, x -> x.relieve(0));
        Twin.answers("person 0 for the post 1", 2, x -> {
            none.make(x);
            x.grant(0, 1, 1);
        }, x -> x.relieve(0));
    }

    /** "different people on all its posts" */
    private static void differentPeople() {
        Twin.Making one = x -> {
            Make.people(x, 1);
            Make.ship(x, 0, 0);
            x.plan(0, 5, 2);
        };
        Twin.refuses("one person for two posts", Check.UNSUPPORTED, one, x -> x.relieve(0));
        Ferryroster x = with(1, 1);
        Make.ship(x, 0, 0);
        x.plan(0, 5, 2);
        Check.due("two people for two posts", x.relieve(0), 2);
        crew(x, 0, 0, 1);
    }

    /** Only the last three of eight people are left. */
    private static void fullOfPeople() {
        Ferryroster x = with(7, 7, 7, 7, 7, 7, 7, 7);
        Make.ship(x, 0, 1, 2);
        x.plan(0, 5, 2);
        for (int person = 0; person < 5; person++) {
            x.callSick(person, 1);
        }
        Check.due("three of eight", x.relieve(0), 3);
        crew(x, 0, 5, 6, 7);
        x.callSick(6, 1);
        Check.fails("two of eight", Check.UNSUPPORTED, () -> x.relieve(0));
        crew(x, 0, 5, 6, 7);
    }

    /** "Returns the number of changes.": 0 to 3. */
    private static void numberOfChanges() {
        for (int changes = 0; changes < 4; changes++) {
            Ferryroster x = with(7, 7, 7, 7, 7, 7);
            Make.ship(x, 0, 1, 2);
            Make.sail(x, 0, 5, 2, 3, 4, 5);
            for (int post = 0; post < changes; post++) {
                x.callSick(3 + post, 1);
            }
            Check.due("people sick", x.relieve(0), changes);
            for (int post = 0; post < 3; post++) {
                crewOn(x, post, post < changes ? post : 3 + post);
            }
        }
    }

    private static void crewOn(Ferryroster x, int post, int person) {
        Check.due("the post " + post, x.personOn(0, post), person);
    }

    /** "a change is a post that had not this person before": also one that had another person or nobody. */
    private static void changesOfPosts() {
        Ferryroster x = with(1 + 2, 2, 1);
        Make.ship(x, 0, 1);
        Make.sail(x, 0, 5, 2, 0);
        Check.due("nobody before", x.relieve(0), 1);
        crew(x, 0, 0, 1);
        x.callSick(1, 1);
        Check.due("person 0 moves, and person 2 comes", x.relieve(0), 2);
        crew(x, 0, 2, 0);
    }

    private static void fewestChangesBeforeTheLowest() {
        Ferryroster x = with(7, 7, 7, 7);
        Make.ship(x, 0, 1, 2);
        Make.sail(x, 0, 5, 2, 3);
        x.assign(0, 2, 1);
        Check.due("one change, though person 0 is the lowest on the post 0", x.relieve(0), 1);
        crew(x, 0, 3, 0, 1);
    }

    /** "the one with the lowest person on the post 0": whoever that leaves for the others. */
    private static void lowestOnThePost0() {
        Ferryroster x = with(1, 1 + 2, 2, 2);
        Make.ship(x, 0, 1);
        x.plan(0, 5, 2);
        x.relieve(0);
        crew(x, 0, 0, 1);
        Ferryroster y = with(2, 1 + 2, 1 + 2, 1);
        Make.ship(y, 0, 1);
        y.plan(0, 5, 2);
        y.relieve(0);
        crew(y, 0, 1, 0);
        Ferryroster z = with(1 + 2, 2, 1);
        Make.ship(z, 0, 1);
        z.plan(0, 5, 2);
        z.relieve(0);
        crew(z, 0, 0, 1);
    }

    /** "of several, the one with the lowest person on the post 1": the post 2 gets a higher one for it. */
    private static void lowestOnThePost1() {
        Ferryroster x = with(1, 2 + 4, 2 + 4);
        Make.ship(x, 0, 1, 2);
        x.plan(0, 5, 2);
        x.relieve(0);
        crew(x, 0, 0, 1, 2);
        Ferryroster y = with(1, 4, 2 + 4, 2);
        Make.ship(y, 0, 1, 2);
        y.plan(0, 5, 2);
        y.relieve(0);
        crew(y, 0, 0, 2, 1);
    }

    /** "and so on": the post 2 gets the lowest of those who are left. */
    private static void lowestOnThePost2() {
        Ferryroster x = with(1, 2, 0, 4, 4);
        Make.ship(x, 0, 1, 2);
        x.plan(0, 5, 2);
        x.relieve(0);
        crew(x, 0, 0, 1, 3);
    }

    /** "this can be done whether it is complete or not" */
    private static void reliefOfACompleteOne() {
        Twin.Making complete = x -> {
            Make.people(x, 4);
            Make.ship(x, 0, 1, 2);
            Make.sail(x, 0, 5, 2, 3, 1, 2);
        };
        Twin.asks("no changes", 0, complete, x -> x.relieve(0));
    }

    private static void reliefLeavesOthersAlone() {
        Ferryroster x = with(1, 1, 1);
        Make.ship(x, 0);
        Make.ship(x, 0);
        Make.sail(x, 0, 5, 4, 0);
        x.plan(1, 6, 4);
        x.plan(1, 20, 2);
        Check.due("the next one, as person 0 is elsewhere", x.relieve(1), 1);
        crew(x, 0, 0);
        crew(x, 1, 1);
        crew(x, 2, -1);
    }

    /** Person 0 fits one of the two sailings of a day, but not both. */
    private static void reliefKeepsTheRules() {
        Ferryroster x = with(1, 1);
        x.setDayRule(8);
        Make.ship(x, 0);
        x.plan(0, 10, 5);
        x.plan(0, 20, 4);
        x.plan(0, 24, 3);
        x.relieve(0);
        Check.due("nine hours", x.relieve(1), 1);
        crew(x, 1, 1);
        Check.due("eight hours", x.relieve(2), 1);
        crew(x, 2, 0);
    }

    // ---- relief of all

    private static void nothingIsShort() {
        Twin.asks("one complete, one cancelled", 0, x -> {
            Make.people(x, 2);
            Make.ship(x, 0);
            Make.sail(x, 0, 5, 2, 1);
            x.plan(0, 10, 2);
            x.cancel(1);
        }, x -> x.relieveAll());
    }

    /** "The short sailings are the planned sailings that are not complete": a complete one keeps its crew. */
    private static void completeOnesAreNotLookedAt() {
        Ferryroster x = with(1, 1);
        Make.ship(x, 0);
        Make.ship(x, 0);
        Make.sail(x, 0, 10, 4, 1);
        x.plan(1, 11, 4);
        x.plan(1, 15, 2);
        x.plan(1, 17, 2);
        x.plan(1, 19, 1);
        x.plan(1, 20, 1);
        Check.due("none is cancelled", x.relieveAll(), 0);
        int[] due = {1, 0, 0, 0, 0, -1};
        for (int sailing = 0; sailing < due.length; sailing++) {
            crew(x, sailing, due[sailing]);
        }
    }

    private static void plannedOnesAlone() {
        Ferryroster x = with(1);
        Make.ship(x, 0);
        Make.sail(x, 0, 2, 2, 0);
        x.plan(0, 5, 2);
        x.plan(0, 10, 2);
        x.cancel(1);
        x.pass(3);
        x.callSick(0, 1);
        Check.due("the one that has sailed is not short", x.shortSailings(), 1);
        Check.due("only the planned one is cancelled", x.relieveAll(), 1);
        Check.due("sailed", x.stateOf(0), 's');
        crew(x, 0, 0);
        Check.due("cancelled before", x.stateOf(1), 'c');
        Check.due("cancelled now", x.stateOf(2), 'c');
    }

    /** "only the first four are looked at": of 1 to 5 short sailings, and of 24. */
    private static void oneToFive() {
        int[] counts = {1, 2, 3, 4, 5, 24};
        for (int count : counts) {
            Ferryroster x = with(1);
            Make.ship(x, 0);
            for (int i = 0; i < count; i++) {
                x.plan(0, 20 + 30 * i, 2);
            }
            Check.due(count + " short sailings: none is cancelled", x.relieveAll(), 0);
            Check.due(count + " short sailings: left", x.shortSailings(), Math.max(0, count - 4));
            x.callSick(0, 20);
            int again = x.shortSailings();
            Check.due(count + " short sailings: cancelled", x.relieveAll(), Math.min(4, again));
            Check.due(count + " short sailings: the state", x.sailings('c'), Math.min(4, again));
        }
    }

    /** "or is cancelled if there is no way": all of 1 to 4 short sailings, by the first relief of an office. */
    private static void noWayForAny() {
        for (int count = 1; count < 5; count++) {
            Ferryroster x = with(0, 0);
            Make.ship(x, 0);
            for (int i = 0; i < count; i++) {
                x.plan(0, 80 - 20 * i, 2);
            }
            x.plan(0, 100, 2);
            int looked = Math.min(4, count + 1);
            Check.due("all of " + count + ", and the last one if there is room", x.relieveAll(), looked);
            for (int sailing = 0; sailing < count; sailing++) {
                Check.due("the state of " + sailing, x.stateOf(sailing), 'c');
            }
            Check.due("the state of the last one", x.stateOf(count), count < 4 ? 'c' : 'p');
        }
    }

    /** "ordered by their starts": the one with the latest start is left, whatever its number. */
    private static void fifthByItsStart() {
        for (int latest = 0; latest < 5; latest++) {
            Ferryroster x = with(1);
            Make.ship(x, 0);
            for (int sailing = 0; sailing < 5; sailing++) {
                x.plan(0, sailing == latest ? 500 : 400 - 50 * sailing, 2);
            }
            x.relieveAll();
            for (int sailing = 0; sailing < 5; sailing++) {
                crew(x, sailing, sailing == latest ? -1 : 0);
            }
        }
    }

    /** "and then by their numbers": of two with the same start, the one with the higher number is left. */
    private static void fifthByItsNumber() {
        Ferryroster x = with(1, 1);
        Make.ship(x, 0);
        Make.ship(x, 0);
        x.plan(1, 100, 2);
        x.plan(0, 100, 2);
        x.plan(0, 50, 2);
        x.plan(0, 10, 2);
        x.plan(1, 10, 2);
        x.relieveAll();
        int[] due = {0, -1, 0, 0, 1};
        for (int sailing = 0; sailing < due.length; sailing++) {
            crew(x, sailing, due[sailing]);
        }
        Ferryroster y = with(1, 1, 1, 1, 1);
        for (int ship = 0; ship < 4; ship++) {
            Make.ship(y, 0);
        }
        for (int ship = 3; ship >= 0; ship--) {
            y.plan(ship, 20, 4);
        }
        y.relieveAll();
        for (int sailing = 0; sailing < 4; sailing++) {
            crew(y, sailing, sailing);
        }
    }

    /** The fifth short sailing keeps the people whom it has: they are not free for the four. */
    private static void fifthIsCountedWithItsCrew() {
        Ferryroster x = with(1, 1);
        Make.ship(x, 0);
        Make.ship(x, 0, 0);
        x.plan(0, 10, 2);
        x.plan(0, 12, 2);
        x.plan(0, 14, 2);
        x.plan(0, 16, 2);
        Make.sail(x, 1, 17, 2, 0);
        Check.due("person 0 is elsewhere", x.relieveAll(), 0);
        int[] due = {0, 0, 0, 1, 0};
        for (int sailing = 0; sailing < due.length; sailing++) {
            crew(x, sailing, due[sailing]);
        }
        Check.due("the fifth one is short still", x.shortSailings(), 1);
    }

    /** Two sailings are too much work; when one of them is cancelled, the other one keeps its crew: no change. */
    private static void oneThatIsCompleteAgain() {
        Ferryroster x = with(1);
        Make.ship(x, 0);
        Make.sail(x, 0, 10, 4, 0);
        Make.sail(x, 0, 20, 4, 0);
        x.setDayRule(4);
        Check.due("both are short", x.shortSailings(), 2);
        Check.due("one is cancelled", x.relieveAll(), 1);
        // In the first order, the first sailing finds no way, as its person works on the second one.
        Check.due("the first one", x.stateOf(0), 'c');
        crew(x, 1, 0);
        Check.yes("complete again", x.isComplete(1));
    }

    private static void cancelledIfThereIsNoWay() {
        Ferryroster x = with(1);
        Make.ship(x, 0);
        Make.ship(x, 1);
        x.plan(1, 5, 2);
        x.plan(0, 5, 2);
        Check.due("one has no way", x.relieveAll(), 1);
        Check.due("cancelled", x.stateOf(0), 'c');
        crew(x, 1, 0);
        Check.due("planned", x.stateOf(1), 'p');
        Check.due("nothing is short any more", x.shortSailings(), 0);
    }

    private static void cancelledSetsPeopleFree() {
        Ferryroster x = with(1);
        Make.ship(x, 0, 1);
        Make.ship(x, 0);
        Make.sail(x, 0, 10, 4, 0);
        x.plan(1, 9, 4);
        Check.due("one of two", x.relieveAll(), 1);
        Check.due("the one without a second person", x.stateOf(0), 'c');
        crew(x, 1, 0);
    }

    /**
     * In one order two changes and a cancelled sailing, in the other one five changes and none: sailing 0 would take
     * person 1, without whom sailing 1 has two people for its three posts.
     */
    private static void fewestCancelledBeforeChanges() {
        Ferryroster x = with(1, 1 + 2, 1, 2, 2);
        Make.ship(x, 1, 1);
        Make.ship(x, 0, 0, 0);
        x.plan(0, 10, 4);
        x.plan(1, 11, 4);
        Check.due("none is cancelled", x.relieveAll(), 0);
        crew(x, 0, 3, 4);
        crew(x, 1, 0, 1, 2);
    }

    /** Both orders cancel nothing: one with three changes, one with two. */
    private static void fewestChangesOfAllTogether() {
        Ferryroster x = with(2 + 4, 4, 1 + 2, 1);
        Make.ship(x, 2);
        Make.ship(x, 0, 1);
        x.plan(0, 10, 4);
        Make.sail(x, 1, 11, 4, 2);
        Check.due("none is cancelled", x.relieveAll(), 0);
        crew(x, 0, 1);
        crew(x, 1, 2, 0);
    }

    /** Each order cancels one of the two: the sailing that is left has two changes or one. */
    private static void changesOfCancelledOnesAreLeftOut() {
        Ferryroster x = with(1, 1, 1);
        Make.ship(x, 0, 0);
        Make.ship(x, 0, 0, 0);
        x.plan(0, 10, 4);
        Make.sail(x, 1, 12, 4, 2, 1);
        Check.due("one is cancelled", x.relieveAll(), 1);
        Check.due("the one with two changes, of persons 0 and another", x.stateOf(0), 'c');
        crew(x, 1, 2, 1, 0);
        Ferryroster y = with(1, 1, 1);
        Make.ship(y, 0, 0);
        Make.ship(y, 0, 0, 0);
        y.plan(0, 10, 4);
        y.plan(1, 12, 4);
        Check.due("one is cancelled", y.relieveAll(), 1);
        Check.due("the one with three changes", y.stateOf(1), 'c');
        crew(y, 0, 0, 1);
        // One change either way, but only the cancelled sailing 1 has a post that becomes open.
        Ferryroster z = with(1, 1);
        Make.ship(z, 0);
        Make.ship(z, 0);
        z.plan(0, 10, 4);
        Make.sail(z, 1, 12, 4, 1);
        z.callSick(1, 1);
        Check.due("one is cancelled", z.relieveAll(), 1);
        Check.due("the one that stands second", z.stateOf(1), 'c');
        crew(z, 0, 0);
    }

    /** "the one whose first sailing stands first among the four" */
    private static void firstStandsFirst() {
        Ferryroster x = with(1, 1, 1, 1);
        for (int ship = 0; ship < 4; ship++) {
            Make.ship(x, 0);
            x.plan(ship, 20 - ship, 8);
        }
        Check.due("none is cancelled", x.relieveAll(), 0);
        for (int sailing = 0; sailing < 4; sailing++) {
            crew(x, sailing, 3 - sailing);
        }
    }

    /**
     * Sailing 1 needs person 0 on its post 0, whom any other sailing would take: it is the first one in all the best
     * orders. The others come in the order in which they stand.
     */
    private static Ferryroster bestOrdersBeginWithTheSecond(int sailings) {
        Ferryroster x = with(1 + 2, 1, 1, 1);
        for (int ship = 0; ship < 4; ship++) {
            Make.ship(x, ship == 1 ? 1 : 0);
        }
        for (int ship = 0; ship < sailings; ship++) {
            x.plan(ship, 20 + ship, 8);
        }
        return x;
    }

    /** "then the one whose second sailing does" */
    private static void secondStandsFirst() {
        Ferryroster x = bestOrdersBeginWithTheSecond(3);
        Check.due("none is cancelled", x.relieveAll(), 0);
        crew(x, 1, 0);
        crew(x, 0, 1);
        crew(x, 2, 2);
    }

    /** "and so on" */
    private static void thirdStandsFirst() {
        Ferryroster x = bestOrdersBeginWithTheSecond(4);
        Check.due("none is cancelled", x.relieveAll(), 0);
        crew(x, 1, 0);
        crew(x, 0, 1);
        crew(x, 2, 2);
        crew(x, 3, 3);
        // With a person fewer each order cancels one: so the first of all orders is taken.
        Ferryroster y = bestOrdersBeginWithTheSecond(4);
        y.callSick(3, 2);
        Check.due("three people for four", y.relieveAll(), 1);
        crew(y, 0, 0);
        Check.due("the one that needs person 0", y.stateOf(1), 'c');
        crew(y, 2, 1);
        crew(y, 3, 2);
    }

    /**
     * "All orders are compared": for each of the 24 orders an office in which any other one cancels a sailing. The
     * sailing that is to be relieved first has one person alone; each later one would take the person whom the one
     * ahead of it needs, if it came before, as this is the lower one of its two.
     */
    private static void eachOrderIsCompared() {
        for (int code = 0; code < 256; code++) {
            int[] order = {code >> 6 & 3, code >> 4 & 3, code >> 2 & 3, code & 3};
            if ((1 << order[0] | 1 << order[1] | 1 << order[2] | 1 << order[3]) == 15) {
                onlyThisOrderWillDo(order);
            }
        }
    }

    private static void onlyThisOrderWillDo(int[] order) {
        Ferryroster x = new Ferryroster();
        for (int place = 0; place < 4; place++) {
            x.addPerson();
            x.grant(place, order[place], 9);
            if (place < 3) {
                x.grant(place, order[place + 1], 9);
            }
            Make.ship(x, place);
        }
        for (int ship = 0; ship < 4; ship++) {
            x.plan(ship, 10 + ship, 6);
        }
        String what = "order " + order[0] + order[1] + order[2] + order[3];
        Check.due(what, x.relieveAll(), 0);
        for (int place = 0; place < 4; place++) {
            Check.due(what + ", the sailing " + order[place], x.personOn(order[place], 0), place);
        }
    }
}
