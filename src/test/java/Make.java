/** Makes what many tests begin with. */
final class Make {
    static final int LAST_CERTIFIED_DAY = 59;

    private Make() {
    }

    /** At the hour 0: people with certificates of all kinds up to the day 59, for 5 calls each. */
    static void people(Ferryroster x, int count) {
        for (int i = 0; i < count; i++) {
            int person = x.addPerson();
            for (int kind = 0; kind < 4; kind++) {
                x.grant(person, kind, 60);
            }
        }
    }

    static void ship(Ferryroster x, int... kinds) {
        int ship = x.addShip(kinds[0]);
        for (int post = 1; post < kinds.length; post++) {
            x.addPost(ship, kinds[post]);
        }
    }

    /** Plans a sailing and puts these people on its posts, in their order. */
    static int sail(Ferryroster x, int ship, int start, int hours, int... people) {
        int sailing = x.plan(ship, start, hours);
        for (int post = 0; post < people.length; post++) {
            x.assign(sailing, post, people[post]);
        }
        return sailing;
    }

    static void hours(Ferryroster x, int hours) {
        for (int left = hours; left > 0; left -= 48) {
            x.pass(Math.min(left, 48));
        }
    }

    static void days(Ferryroster x, int days) {
        hours(x, 24 * days);
    }

    static void withoutRules(Ferryroster x) {
        x.setDayRule(24);
        x.setWeekRule(168);
    }
}
