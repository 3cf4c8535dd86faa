/** A first day in the office; README.md shows it, and what it prints. */
public final class Example {
    public static void main(String[] args) {
        Ferryroster office = new Ferryroster();

        // Certificates for 30 days: Ann and Bo have the kind 0, Bo and Cy the kind 1.
        int ann = office.addPerson();
        int bo = office.addPerson();
        int cy = office.addPerson();
        office.grant(ann, 0, 30);
        office.grant(bo, 0, 30);
        office.grant(bo, 1, 30);
        office.grant(cy, 1, 30);

        // The post 0 of the ship needs the kind 0, its post 1 the kind 1. It sails from hour 8 up to hour 14.
        int ship = office.addShip(0);
        office.addPost(ship, 1);
        int sailing = office.plan(ship, 8, 6);
        office.assign(sailing, 0, ann);
        office.assign(sailing, 1, bo);
        System.out.println("complete: " + office.isComplete(sailing));

        // Ann falls sick today and tomorrow. Bo alone can take her post, and Cy takes his.
        System.out.println("sailings that Ann has a post of: " + office.callSick(ann, 2));
        System.out.println("Ann is sick: " + (office.reason(sailing, 0, ann) == Ferryroster.SICK));
        System.out.println("changes of the relief: " + office.relieve(sailing));
        System.out.println("Bo on post 0: " + (office.personOn(sailing, 0) == bo));
        System.out.println("Cy on post 1: " + (office.personOn(sailing, 1) == cy));

        // Ten hours pass. At hour 8 the sailing has a complete crew: it sails.
        System.out.println("cancelled: " + office.pass(10));
        System.out.println("state: " + office.stateOf(sailing));
        System.out.println("hours of Bo: " + office.work(bo, 0, 999));
        System.out.println("next 12 hours for Bo: from hour " + office.nextStart(bo, 12));

        // What cannot be done throws the exception that the document names, and changes nothing.
        try {
            office.release(sailing, 0);
        } catch (IllegalStateException e) {
            System.out.println("refused: " + e.getMessage());
        }
    }
}
