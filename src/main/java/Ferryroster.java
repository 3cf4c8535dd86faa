import java.util.ArrayList;
import java.util.List;
import java.util.NoSuchElementException;

/** A crew office of ferries: people and certificates, ships and sailings, and the relief of crews. */
public final class Ferryroster {
    public static final int NONE = -1;
    public static final int FITS = 0;
    public static final int NO_CERTIFICATE = 1;
    public static final int SICK = 2;
    public static final int ON_COURSE = 3;
    public static final int ELSEWHERE = 4;
    public static final int DAY_RULE = 5;
    public static final int WEEK_RULE = 6;

    private static final int LAST_HOUR = 999;
    private static final int LAST_DAY = 41;
    private static final int DAY_HOURS = 24;
    private static final int WEEK_HOURS = 168;
    private static final int MOST_HOURS_AT_ONCE = 48;
    private static final int KINDS = 4;
    private static final int MOST_PEOPLE = 8;
    private static final int MOST_SHIPS = 4;
    private static final int MOST_POSTS = 3;
    private static final int MOST_SAILINGS = 24;
    private static final int MOST_SAILING_HOURS = 12;
    private static final int MOST_CERTIFICATE_DAYS = 60;
    private static final int MOST_SICK_DAYS = 20;
    private static final int MOST_COURSE_DAYS = 10;
    private static final int RENEWAL_DAYS = 9;
    private static final int COURSE_CERTIFICATE_DAYS = 30;
    private static final int MOST_LOOKED_AT = 4;

    private static final char PLANNED = 'p';
    private static final char SAILED = 's';
    private static final char CANCELLED = 'c';

    private final List<Person> people = new ArrayList<>();
    private final List<Ship> ships = new ArrayList<>();
    private final List<Sailing> voyages = new ArrayList<>();
    // Made once and used by all calls: a call makes no objects of its own for its searches.
    private final CrewSearch crewSearch = new CrewSearch();
    private final OrderSearch orderSearch = new OrderSearch();
    private int hour = 0;
    private int dayRule = 14;
    private int weekRule = 72;

    public Ferryroster() {
    }

    // ---- time and rules

    public int pass(int hours) throws IllegalArgumentException, IllegalStateException {
        if (hours < 1 || hours > MOST_HOURS_AT_ONCE) {
            throw new IllegalArgumentException("the number of hours is 1 to 48");
        }
        if (hour + hours > LAST_HOUR) {
            throw new IllegalStateException("the present hour is at most 999");
        }
        int cancelled = 0;
        for (int i = 0; i < hours; i++) {
            cancelled += letHourCome();
        }
        return cancelled;
    }

    public int now() {
        return hour;
    }

    public int setDayRule(int hours) throws IllegalArgumentException {
        if (hours < 1 || hours > DAY_HOURS) {
            throw new IllegalArgumentException("the day rule is 1 to 24");
        }
        int before = dayRule;
        dayRule = hours;
        return before;
    }

    public int setWeekRule(int hours) throws IllegalArgumentException {
        if (hours < 1 || hours > WEEK_HOURS) {
            throw new IllegalArgumentException("the week rule is 1 to 168");
        }
        int before = weekRule;
        weekRule = hours;
        return before;
    }

    private int today() {
        return hour / DAY_HOURS;
    }

    private int letHourCome() {
        hour++;
        if (hour % DAY_HOURS == 0) {
            endCourses(today() - 1);
        }
        int cancelled = 0;
        for (int i = 0; i < voyages.size(); i++) {
            Sailing sailing = voyages.get(i);
            if (sailing.isPlanned() && sailing.start == hour) {
                if (hasFittingCrew(sailing)) {
                    sailing.state = SAILED;
                } else {
                    callOff(sailing);
                    cancelled++;
                }
            }
        }
        return cancelled;
    }

    private void endCourses(int day) {
        for (int i = 0; i < people.size(); i++) {
            people.get(i).endCourse(day);
        }
    }

    // ---- people

    public int addPerson() throws IllegalStateException {
        int number = people.size();
        if (number >= MOST_PEOPLE) {
            throw new IllegalStateException("there are 8 people");
        }
        people.add(new Person(number));
        return number;
    }

    public int grant(int person, int kind, int days)
            throws IndexOutOfBoundsException, IllegalArgumentException, IllegalStateException {
        Person holder = knownPerson(person);
        checkKind(kind);
        checkCertificateDays(days);
        if (holder.lastDayOf(kind) >= today()) {
            throw new IllegalStateException("the person has a certificate that has not ended");
        }
        int last = today() + days - 1;
        holder.certify(kind, today(), last);
        return last;
    }

    public int renew(int person, int kind, int days) throws IndexOutOfBoundsException, IllegalArgumentException,
            NoSuchElementException, IllegalStateException {
        Person holder = knownPerson(person);
        checkKind(kind);
        checkCertificateDays(days);
        int last = knownLastDay(holder, kind);
        if (today() > last || today() < last - RENEWAL_DAYS) {
            throw new IllegalStateException("the certificate cannot be renewed on this day");
        }
        holder.prolong(kind, days);
        return last + days;
    }

    public int lastDay(int person, int kind)
            throws IndexOutOfBoundsException, IllegalArgumentException, NoSuchElementException {
        Person holder = knownPerson(person);
        checkKind(kind);
        return knownLastDay(holder, kind);
    }

    public int callSick(int person, int days) throws IndexOutOfBoundsException, IllegalArgumentException {
        Person patient = knownPerson(person);
        if (days < 1 || days > MOST_SICK_DAYS) {
            throw new IllegalArgumentException("the number of days is 1 to 20");
        }
        int last = today() + days - 1;
        patient.sickDays.add(today(), last);
        int touched = 0;
        for (int i = 0; i < voyages.size(); i++) {
            Sailing sailing = voyages.get(i);
            if (sailing.isPlanned() && sailing.has(person)
                    && sailing.firstDay() <= last && sailing.finalDay() >= today()) {
                touched++;
            }
        }
        return touched;
    }

    public int recover(int person) throws IndexOutOfBoundsException, IllegalStateException {
        Person patient = knownPerson(person);
        int days = patient.sickDays.countFrom(today());
        if (days == 0) {
            throw new IllegalStateException("the person is not sick");
        }
        patient.sickDays.removeFrom(today());
        return days;
    }

    public int enroll(int person, int kind, int first, int days)
            throws IndexOutOfBoundsException, IllegalArgumentException, IllegalStateException {
        Person student = knownPerson(person);
        checkKind(kind);
        if (first <= today() || first > LAST_DAY) {
            throw new IllegalArgumentException("the first day is later than the present day, and at most 41");
        }
        if (days < 1 || days > MOST_COURSE_DAYS) {
            throw new IllegalArgumentException("the number of days is 1 to 10");
        }
        int last = first + days - 1;
        if (last > LAST_DAY) {
            throw new IllegalArgumentException("the last day is at most 41");
        }
        if (student.hasCourse()) {
            throw new IllegalStateException("the person has a course that is not over");
        }
        student.beginCourse(kind, first, last);
        return last;
    }

    public int leaveCourse(int person) throws IndexOutOfBoundsException, IllegalStateException {
        Person student = knownPerson(person);
        if (!student.hasCourse()) {
            throw new IllegalStateException("the person has no course that is not over");
        }
        int days = student.courseDays.countFrom(today());
        student.breakCourseOff(today());
        return days;
    }

    public boolean isAway(int person, int day) throws IndexOutOfBoundsException, IllegalArgumentException {
        Person someone = knownPerson(person);
        if (day < 0 || day > LAST_DAY) {
            throw new IllegalArgumentException("the day is 0 to 41");
        }
        return someone.sickDays.has(day) || someone.courseDays.has(day);
    }

    private boolean isPerson(int person) {
        return person >= 0 && person < people.size();
    }

    private Person knownPerson(int person) {
        if (!isPerson(person)) {
            throw new IndexOutOfBoundsException("there is no such person");
        }
        return people.get(person);
    }

    private static void checkKind(int kind) {
        if (kind < 0 || kind >= KINDS) {
            throw new IllegalArgumentException("the kind is 0 to 3");
        }
    }

    private static void checkCertificateDays(int days) {
        if (days < 1 || days > MOST_CERTIFICATE_DAYS) {
            throw new IllegalArgumentException("the number of days is 1 to 60");
        }
    }

    private static int knownLastDay(Person holder, int kind) {
        int last = holder.lastDayOf(kind);
        if (last == NONE) {
            throw new NoSuchElementException("the person has no certificate of this kind");
        }
        return last;
    }

    // ---- ships and sailings

    public int addShip(int kind) throws IllegalArgumentException, IllegalStateException {
        checkKind(kind);
        int number = ships.size();
        if (number >= MOST_SHIPS) {
            throw new IllegalStateException("there are 4 ships");
        }
        ships.add(new Ship(kind));
        return number;
    }

    public int addPost(int ship, int kind)
            throws IndexOutOfBoundsException, IllegalArgumentException, IllegalStateException {
        Ship ferry = knownShip(ship);
        checkKind(kind);
        if (ferry.posts >= MOST_POSTS || ferry.hasSailings) {
            throw new IllegalStateException("the ship has 3 posts or has sailings");
        }
        ferry.addPostOf(kind);
        return ferry.posts;
    }

    public int plan(int ship, int start, int hours)
            throws IndexOutOfBoundsException, IllegalArgumentException, IllegalStateException {
        Ship ferry = knownShip(ship);
        if (start <= hour || start > LAST_HOUR) {
            throw new IllegalArgumentException("the start is later than the present hour, and at most 999");
        }
        checkSailingHours(hours);
        int end = start + hours;
        if (end > LAST_HOUR) {
            throw new IllegalArgumentException("the start plus the length is at most 999");
        }
        int number = voyages.size();
        if (number >= MOST_SAILINGS || isUnderWay(ferry, start, end)) {
            throw new IllegalStateException("the ship has a sailing in these hours, or there are 24 sailings");
        }
        voyages.add(new Sailing(ferry, start, end));
        ferry.hasSailings = true;
        return number;
    }

    public int assign(int sailing, int post, int person) throws NoSuchElementException, IndexOutOfBoundsException,
            IllegalStateException, IllegalArgumentException, UnsupportedOperationException {
        Sailing voyage = knownSailing(sailing);
        checkPost(voyage, post);
        Person mate = knownPerson(person);
        checkPlanned(voyage);
        if (voyage.has(person)) {
            throw new IllegalArgumentException("the person has a post of this sailing");
        }
        if (reasonAgainst(voyage, post, mate) != FITS) {
            throw new UnsupportedOperationException("the person does not fit the post");
        }
        int before = voyage.crewAt(post);
        takeOff(voyage, post);
        putOn(voyage, post, person);
        return before;
    }

    public int release(int sailing, int post)
            throws NoSuchElementException, IndexOutOfBoundsException, IllegalStateException {
        Sailing voyage = knownSailing(sailing);
        checkPost(voyage, post);
        checkPlanned(voyage);
        int before = voyage.crewAt(post);
        if (before == NONE) {
            throw new IllegalStateException("the post is open");
        }
        takeOff(voyage, post);
        return before;
    }

    public int cancel(int sailing) throws NoSuchElementException, IllegalStateException {
        Sailing voyage = knownSailing(sailing);
        checkPlanned(voyage);
        int crew = voyage.crewSize();
        callOff(voyage);
        return crew;
    }

    public int relieve(int sailing)
            throws NoSuchElementException, IllegalStateException, UnsupportedOperationException {
        Sailing voyage = knownSailing(sailing);
        checkPlanned(voyage);
        int changes = giveRelief(voyage);
        if (changes == NONE) {
            throw new UnsupportedOperationException("there is no way to put people on all posts");
        }
        return changes;
    }

    public int relieveAll() {
        orderSearch.clear();
        for (int i = 0; i < voyages.size(); i++) {
            Sailing sailing = voyages.get(i);
            if (isShort(sailing)) {
                orderSearch.lookAt(sailing);
            }
        }
        orderSearch.keepCrews();
        tryOrders(this, 0, 0, 0, 0);
        return followBestOrder();
    }

    public char stateOf(int sailing) throws NoSuchElementException {
        return knownSailing(sailing).state;
    }

    public int personOn(int sailing, int post) throws NoSuchElementException, IndexOutOfBoundsException {
        Sailing voyage = knownSailing(sailing);
        checkPost(voyage, post);
        return voyage.crewAt(post);
    }

    public boolean isComplete(int sailing) throws NoSuchElementException, IllegalStateException {
        Sailing voyage = knownSailing(sailing);
        checkPlanned(voyage);
        return hasFittingCrew(voyage);
    }

    public int reason(int sailing, int post, int person)
            throws NoSuchElementException, IndexOutOfBoundsException, IllegalStateException {
        Sailing voyage = knownSailing(sailing);
        checkPost(voyage, post);
        Person someone = knownPerson(person);
        checkPlanned(voyage);
        return reasonAgainst(voyage, post, someone);
    }

    public int fitting(int sailing, int post)
            throws NoSuchElementException, IndexOutOfBoundsException, IllegalStateException {
        Sailing voyage = knownSailing(sailing);
        checkPost(voyage, post);
        checkPlanned(voyage);
        int count = 0;
        for (int i = 0; i < people.size(); i++) {
            if (reasonAgainst(voyage, post, people.get(i)) == FITS) {
                count++;
            }
        }
        return count;
    }

    public int shortSailings() {
        int count = 0;
        for (int i = 0; i < voyages.size(); i++) {
            if (isShort(voyages.get(i))) {
                count++;
            }
        }
        return count;
    }

    public int sailings(char state) throws IllegalArgumentException {
        if (state != PLANNED && state != SAILED && state != CANCELLED) {
            throw new IllegalArgumentException("there is no such state");
        }
        int count = 0;
        for (int i = 0; i < voyages.size(); i++) {
            if (voyages.get(i).state == state) {
                count++;
            }
        }
        return count;
    }

    private Ship knownShip(int ship) {
        if (ship < 0 || ship >= ships.size()) {
            throw new IndexOutOfBoundsException("there is no such ship");
        }
        return ships.get(ship);
    }

    private Sailing knownSailing(int sailing) {
        if (sailing < 0 || sailing >= voyages.size()) {
            throw new NoSuchElementException("there is no such sailing");
        }
        return voyages.get(sailing);
    }

    private static void checkPost(Sailing voyage, int post) {
        if (post < 0 || post >= voyage.ship.posts) {
            throw new IndexOutOfBoundsException("there is no such post");
        }
    }

    private static void checkPlanned(Sailing voyage) {
        if (!voyage.isPlanned()) {
            throw new IllegalStateException("the sailing is not planned");
        }
    }

    private static void checkSailingHours(int hours) {
        if (hours < 1 || hours > MOST_SAILING_HOURS) {
            throw new IllegalArgumentException("the length is 1 to 12");
        }
    }

    private boolean isUnderWay(Ship ferry, int start, int end) {
        for (int i = 0; i < voyages.size(); i++) {
            Sailing other = voyages.get(i);
            if (other.ship == ferry && other.state != CANCELLED && other.hoursBetween(start, end) > 0) {
                return true;
            }
        }
        return false;
    }

    private void putOn(Sailing voyage, int post, int person) {
        if (isPerson(person)) {
            voyage.setCrew(post, person);
            people.get(person).addWork(voyage.start, voyage.end);
        }
    }

    private void takeOff(Sailing voyage, int post) {
        int person = voyage.crewAt(post);
        if (isPerson(person)) {
            voyage.setCrew(post, NONE);
            people.get(person).removeWork(voyage.start, voyage.end);
        }
    }

    private void takeAllOff(Sailing voyage) {
        for (int post = 0; post < voyage.ship.posts; post++) {
            takeOff(voyage, post);
        }
    }

    private void callOff(Sailing voyage) {
        takeAllOff(voyage);
        voyage.state = CANCELLED;
    }

    // ---- fitting

    private boolean isShort(Sailing voyage) {
        return voyage.isPlanned() && !hasFittingCrew(voyage);
    }

    private boolean hasFittingCrew(Sailing voyage) {
        for (int post = 0; post < voyage.ship.posts; post++) {
            int person = voyage.crewAt(post);
            if (!isPerson(person) || reasonAgainst(voyage, post, people.get(person)) != FITS) {
                return false;
            }
        }
        return true;
    }

    private int reasonAgainst(Sailing voyage, int post, Person person) {
        if (!person.isCertified(voyage.ship.kindOf(post), voyage.firstDay(), voyage.finalDay())) {
            return NO_CERTIFICATE;
        }
        if (person.sickDays.hasAny(voyage.firstDay(), voyage.finalDay())) {
            return SICK;
        }
        if (person.courseDays.hasAny(voyage.firstDay(), voyage.finalDay())) {
            return ON_COURSE;
        }
        int ownPosts = voyage.has(person.number) ? 1 : 0;
        return reasonOfWork(person, voyage.start, voyage.end, ownPosts);
    }

    private int reasonOfWork(Person person, int start, int end, int ownPosts) {
        if (person.isElsewhere(start, end, ownPosts)) {
            return ELSEWHERE;
        }
        if (person.wouldWorkTooMuch(start, end, DAY_HOURS, dayRule)) {
            return DAY_RULE;
        }
        if (person.wouldWorkTooMuch(start, end, WEEK_HOURS, weekRule)) {
            return WEEK_RULE;
        }
        return FITS;
    }

    // ---- relief

    /** Returns the number of changes, or NONE if there is no way; then nothing is changed. */
    private int giveRelief(Sailing voyage) {
        crewSearch.begin(voyage);
        for (int post = 0; post < voyage.ship.posts; post++) {
            for (int i = 0; i < people.size(); i++) {
                if (reasonAgainst(voyage, post, people.get(i)) == FITS) {
                    crewSearch.allow(post, i);
                }
            }
        }
        if (!crewSearch.findCrew()) {
            return NONE;
        }
        takeAllOff(voyage);
        for (int post = 0; post < voyage.ship.posts; post++) {
            putOn(voyage, post, crewSearch.foundAt(post));
        }
        return crewSearch.fewestChanges;
    }

    /**
     * Tries what is left of the orders behind the first sailings of one. As the sailings are taken by their places,
     * the orders come in the order in which they are preferred, and only a better one replaces the one kept.
     */
    private static void tryOrders(Ferryroster office, int depth, int taken, int cancelled, int changes) {
        OrderSearch search = office.orderSearch;
        if (!search.isBetter(cancelled, changes)) {
            return;
        }
        if (depth >= search.looked.size()) {
            search.keep(cancelled, changes);
            return;
        }
        for (int place = 0; place < search.looked.size(); place++) {
            if ((taken >> place & 1) == 0) {
                Sailing voyage = search.looked.get(place);
                search.choose(depth, place);
                int more = office.giveRelief(voyage);
                if (more == NONE) {
                    office.callOff(voyage);
                    tryOrders(office, depth + 1, taken | 1 << place, cancelled + 1, changes);
                } else {
                    tryOrders(office, depth + 1, taken | 1 << place, cancelled, changes + more);
                }
                office.undoRelief(voyage);
            }
        }
    }

    private void undoRelief(Sailing voyage) {
        takeAllOff(voyage);
        voyage.state = PLANNED;
        for (int post = 0; post < voyage.ship.posts; post++) {
            putOn(voyage, post, voyage.crewKeptAt(post));
        }
    }

    private int followBestOrder() {
        int cancelled = 0;
        for (int depth = 0; depth < orderSearch.looked.size(); depth++) {
            int place = orderSearch.bestPlace(depth);
            if (place >= 0 && place < orderSearch.looked.size()) {
                Sailing voyage = orderSearch.looked.get(place);
                if (giveRelief(voyage) == NONE) {
                    callOff(voyage);
                    cancelled++;
                }
            }
        }
        return cancelled;
    }

    // ---- work and rest

    public int work(int person, int from, int to) throws IndexOutOfBoundsException, IllegalArgumentException {
        Person someone = knownPerson(person);
        if (from < 0 || to <= from || to > LAST_HOUR) {
            throw new IllegalArgumentException("the hours are 0 to 999, the first one less than the other one");
        }
        return someone.hoursWorked(from, to);
    }

    public int mostInDay(int person) throws IndexOutOfBoundsException {
        return mostFromSailings(knownPerson(person), DAY_HOURS);
    }

    public int mostInDayByHours(int person) throws IndexOutOfBoundsException {
        return knownPerson(person).mostByHours(DAY_HOURS);
    }

    public int mostInWeek(int person) throws IndexOutOfBoundsException {
        return mostFromSailings(knownPerson(person), WEEK_HOURS);
    }

    public int mostInWeekByHours(int person) throws IndexOutOfBoundsException {
        return knownPerson(person).mostByHours(WEEK_HOURS);
    }

    public int nextStart(int person, int hours)
            throws IndexOutOfBoundsException, IllegalArgumentException, NoSuchElementException {
        Person someone = knownPerson(person);
        checkSailingHours(hours);
        for (int start = hour + 1; start + hours <= LAST_HOUR; start++) {
            if (reasonOfWork(someone, start, start + hours, 0) == FITS) {
                return start;
            }
        }
        throw new NoSuchElementException("there is no such hour");
    }

    public float workShare(int person) throws IndexOutOfBoundsException, ArithmeticException {
        Person someone = knownPerson(person);
        if (hour == 0) {
            throw new ArithmeticException("the present hour is 0");
        }
        return (float) someone.hoursWorked(0, hour) / (float) hour;
    }

    public double meanWork() throws ArithmeticException {
        int count = people.size();
        if (count == 0) {
            throw new ArithmeticException("there are no people");
        }
        int sum = 0;
        for (int i = 0; i < people.size(); i++) {
            sum += people.get(i).hoursWorked(0, LAST_HOUR + 1);
        }
        return (double) sum / (double) count;
    }

    public boolean isSound() {
        for (int i = 0; i < voyages.size(); i++) {
            Sailing sailing = voyages.get(i);
            if (sailing.state == SAILED && sailing.crewSize() < sailing.ship.posts) {
                return false;
            }
            if (sharesSomebodyWithLater(i, sailing)) {
                return false;
            }
        }
        return isCountedAlikeForAll();
    }

    private boolean sharesSomebodyWithLater(int number, Sailing sailing) {
        for (int i = number + 1; i < voyages.size(); i++) {
            Sailing later = voyages.get(i);
            if (sailing.hoursBetween(later.start, later.end) > 0 && sailing.hasSomebodyOf(later)) {
                return true;
            }
        }
        return false;
    }

    private boolean isCountedAlikeForAll() {
        for (int i = 0; i < people.size(); i++) {
            Person person = people.get(i);
            if (mostFromSailings(person, DAY_HOURS) != person.mostByHours(DAY_HOURS)
                    || mostFromSailings(person, WEEK_HOURS) != person.mostByHours(WEEK_HOURS)) {
                return false;
            }
        }
        return true;
    }

    /** Some row of hours with the most work begins at a start or stops at an end: others can be moved there. */
    private int mostFromSailings(Person person, int length) {
        int most = 0;
        for (int i = 0; i < voyages.size(); i++) {
            Sailing sailing = voyages.get(i);
            if (sailing.has(person.number)) {
                int fromStart = hoursOnSailings(person, sailing.start, sailing.start + length);
                int toEnd = hoursOnSailings(person, sailing.end - length, sailing.end);
                most = Math.max(most, Math.max(fromStart, toEnd));
            }
        }
        return most;
    }

    private int hoursOnSailings(Person person, int from, int to) {
        int sum = 0;
        for (int i = 0; i < voyages.size(); i++) {
            Sailing sailing = voyages.get(i);
            if (sailing.has(person.number)) {
                sum += sailing.hoursBetween(from, to);
            }
        }
        return sum;
    }

    /** A set of days, 0 to 41; other days are left out. */
    private static final class Days {
        private long bits = 0;

        void add(int first, int last) {
            for (int day = Math.max(first, 0); day <= last && day <= LAST_DAY; day++) {
                bits |= 1L << day;
            }
        }

        void removeFrom(int day) {
            if (day >= 0 && day <= LAST_DAY) {
                bits &= (1L << day) - 1;
            }
        }

        int countFrom(int day) {
            return day >= 0 && day <= LAST_DAY ? Long.bitCount(bits >>> day) : 0;
        }

        boolean has(int day) {
            return day >= 0 && day <= LAST_DAY && (bits >>> day & 1L) != 0;
        }

        boolean hasAny(int first, int last) {
            for (int day = Math.max(first, 0); day <= last && day <= LAST_DAY; day++) {
                if (has(day)) {
                    return true;
                }
            }
            return false;
        }
    }

    private static final class Person {
        final int number;
        final Days sickDays = new Days();
        // The days of all courses: those of courses that are over are kept.
        final Days courseDays = new Days();
        private final int[] firstDays = new int[KINDS];
        private final int[] lastDays = new int[KINDS];
        private int courseKind = NONE;
        private int courseEnd = NONE;
        // For each hour, on how many sailings the person works.
        private final int[] sailingsAt = new int[LAST_HOUR + 1];
        private int allHours = 0;

        Person(int number) {
            this.number = number;
            for (int kind = 0; kind < lastDays.length; kind++) {
                lastDays[kind] = NONE;
            }
        }

        private static boolean isKind(int kind) {
            return kind >= 0 && kind < KINDS;
        }

        int lastDayOf(int kind) {
            return isKind(kind) ? lastDays[kind] : NONE;
        }

        void certify(int kind, int first, int last) {
            if (isKind(kind)) {
                firstDays[kind] = first;
                lastDays[kind] = last;
            }
        }

        void prolong(int kind, int days) {
            if (isKind(kind)) {
                lastDays[kind] += days;
            }
        }

        boolean isCertified(int kind, int from, int to) {
            return isKind(kind) && lastDays[kind] != NONE && firstDays[kind] <= from && lastDays[kind] >= to;
        }

        boolean hasCourse() {
            return courseEnd != NONE;
        }

        void beginCourse(int kind, int first, int last) {
            courseKind = kind;
            courseEnd = last;
            courseDays.add(first, last);
        }

        void breakCourseOff(int day) {
            courseEnd = NONE;
            courseDays.removeFrom(day);
        }

        void endCourse(int day) {
            if (!hasCourse() || courseEnd != day) {
                return;
            }
            courseEnd = NONE;
            if (lastDayOf(courseKind) >= day) {
                prolong(courseKind, COURSE_CERTIFICATE_DAYS);
            } else {
                certify(courseKind, day + 1, day + COURSE_CERTIFICATE_DAYS);
            }
        }

        void addWork(int start, int end) {
            for (int at = Math.max(start, 0); at < end && at < sailingsAt.length; at++) {
                sailingsAt[at]++;
                allHours++;
            }
        }

        void removeWork(int start, int end) {
            for (int at = Math.max(start, 0); at < end && at < sailingsAt.length; at++) {
                sailingsAt[at]--;
                allHours--;
            }
        }

        private boolean worksAt(int at) {
            return at >= 0 && at < sailingsAt.length && sailingsAt[at] > 0;
        }

        int hoursWorked(int from, int to) {
            int count = 0;
            for (int at = from; at < to; at++) {
                if (worksAt(at)) {
                    count++;
                }
            }
            return count;
        }

        boolean isElsewhere(int start, int end, int ownPosts) {
            for (int at = Math.max(start, 0); at < end && at < sailingsAt.length; at++) {
                if (sailingsAt[at] > ownPosts) {
                    return true;
                }
            }
            return false;
        }

        /**
         * Whether some row of hours of this length, with one of the hours from start to end among them, would have
         * more than the most hours of work. The rows that are shorter, at the beginning, are parts of the first one.
         */
        boolean wouldWorkTooMuch(int start, int end, int length, int most) {
            if (allHours + (end - start) <= most) {
                return false;
            }
            int inRow = 0;
            for (int at = start - length + 1; at < end + length - 1; at++) {
                if ((at >= start && at < end) || worksAt(at)) {
                    inRow++;
                }
                int left = at - length;
                if (left > start - length && ((left >= start && left < end) || worksAt(left))) {
                    inRow--;
                }
                if (inRow > most) {
                    return true;
                }
            }
            return false;
        }

        int mostByHours(int length) {
            int inRow = 0;
            int most = 0;
            for (int at = 0; at < sailingsAt.length; at++) {
                if (worksAt(at)) {
                    inRow++;
                }
                if (worksAt(at - length)) {
                    inRow--;
                }
                most = Math.max(most, inRow);
            }
            return most;
        }
    }

    private static final class Ship {
        private final int[] kinds = new int[MOST_POSTS];
        int posts = 0;
        boolean hasSailings = false;

        Ship(int kind) {
            kinds[0] = kind;
            posts = 1;
        }

        void addPostOf(int kind) {
            if (posts >= 0 && posts < kinds.length) {
                kinds[posts] = kind;
                posts++;
            }
        }

        int kindOf(int post) {
            return post >= 0 && post < kinds.length ? kinds[post] : NONE;
        }
    }

    private static final class Sailing {
        final Ship ship;
        final int start;
        // The hour after the last one.
        final int end;
        char state = PLANNED;
        private final int[] crew = new int[MOST_POSTS];
        // The crew to go back to when an order of relief has been tried.
        private final int[] crewKept = new int[MOST_POSTS];

        Sailing(Ship ship, int start, int end) {
            this.ship = ship;
            this.start = start;
            this.end = end;
            for (int post = 0; post < crew.length; post++) {
                crew[post] = NONE;
            }
        }

        boolean isPlanned() {
            return state == PLANNED;
        }

        int firstDay() {
            return start / DAY_HOURS;
        }

        int finalDay() {
            return (end - 1) / DAY_HOURS;
        }

        int hoursBetween(int from, int to) {
            return Math.max(0, Math.min(end, to) - Math.max(start, from));
        }

        int crewAt(int post) {
            return post >= 0 && post < crew.length ? crew[post] : NONE;
        }

        void setCrew(int post, int person) {
            if (post >= 0 && post < crew.length) {
                crew[post] = person;
            }
        }

        void keepCrew() {
            for (int post = 0; post < crew.length && post < crewKept.length; post++) {
                crewKept[post] = crew[post];
            }
        }

        int crewKeptAt(int post) {
            return post >= 0 && post < crewKept.length ? crewKept[post] : NONE;
        }

        boolean has(int person) {
            for (int post = 0; post < crew.length; post++) {
                if (crew[post] == person) {
                    return true;
                }
            }
            return false;
        }

        int crewSize() {
            int count = 0;
            for (int post = 0; post < crew.length; post++) {
                if (crew[post] != NONE) {
                    count++;
                }
            }
            return count;
        }

        boolean hasSomebodyOf(Sailing other) {
            for (int post = 0; post < crew.length; post++) {
                if (crew[post] != NONE && other.has(crew[post])) {
                    return true;
                }
            }
            return false;
        }
    }

    /** Finds the relief of one sailing among the people who are allowed on its posts. */
    private static final class CrewSearch {
        private int posts = 0;
        private final int[] before = new int[MOST_POSTS];
        // For each post, a bit for each person.
        private final int[] allowed = new int[MOST_POSTS];
        private final int[] tried = new int[MOST_POSTS];
        private final int[] found = new int[MOST_POSTS];
        int fewestChanges = 0;

        void begin(Sailing voyage) {
            posts = voyage.ship.posts;
            for (int post = 0; post < MOST_POSTS; post++) {
                before[post] = voyage.crewAt(post);
                allowed[post] = 0;
            }
            fewestChanges = posts + 1;
        }

        void allow(int post, int person) {
            if (post >= 0 && post < allowed.length) {
                allowed[post] |= 1 << person;
            }
        }

        boolean findCrew() {
            fillPosts(this, 0, 0, 0);
            return fewestChanges <= posts;
        }

        int foundAt(int post) {
            return post >= 0 && post < found.length ? found[post] : NONE;
        }

        /** The ways come with low people first, so that only one with fewer changes replaces the one kept. */
        private static void fillPosts(CrewSearch search, int post, int taken, int changes) {
            if (changes >= search.fewestChanges || post < 0) {
                return;
            }
            if (post >= search.posts || post >= MOST_POSTS) {
                search.keep(changes);
                return;
            }
            int free = search.allowed[post] & ~taken;
            for (int person = 0; person < MOST_PEOPLE; person++) {
                if ((free >> person & 1) != 0) {
                    search.tried[post] = person;
                    int more = search.before[post] == person ? 0 : 1;
                    fillPosts(search, post + 1, taken | 1 << person, changes + more);
                }
            }
        }

        private void keep(int changes) {
            fewestChanges = changes;
            for (int post = 0; post < MOST_POSTS; post++) {
                found[post] = tried[post];
            }
        }
    }

    /** What is known of the orders in which the first short sailings can be relieved. */
    private static final class OrderSearch {
        final List<Sailing> looked = new ArrayList<>();
        private final int[] tried = new int[MOST_LOOKED_AT];
        private final int[] best = new int[MOST_LOOKED_AT];
        private int fewestCancelled = 0;
        private int fewestChanges = 0;

        void clear() {
            looked.clear();
            fewestCancelled = MOST_LOOKED_AT + 1;
            fewestChanges = 0;
        }

        /** Asked in the order of the numbers; so of several sailings with one start, the lowest comes first. */
        void lookAt(Sailing voyage) {
            int place = looked.size();
            while (place > 0 && looked.get(place - 1).start > voyage.start) {
                place--;
            }
            looked.add(place, voyage);
            if (looked.size() > MOST_LOOKED_AT) {
                looked.remove(MOST_LOOKED_AT);
            }
        }

        void keepCrews() {
            for (int place = 0; place < looked.size(); place++) {
                looked.get(place).keepCrew();
            }
        }

        void choose(int depth, int place) {
            if (depth >= 0 && depth < tried.length) {
                tried[depth] = place;
            }
        }

        int bestPlace(int depth) {
            return depth >= 0 && depth < best.length ? best[depth] : NONE;
        }

        /** More sailings of an order add to both numbers; so an order that is not better so far never will be. */
        boolean isBetter(int cancelled, int changes) {
            return cancelled < fewestCancelled
                    || (cancelled == fewestCancelled && changes < fewestChanges);
        }

        void keep(int cancelled, int changes) {
            fewestCancelled = cancelled;
            fewestChanges = changes;
            for (int depth = 0; depth < MOST_LOOKED_AT; depth++) {
                best[depth] = tried[depth];
            }
        }
    }
}
