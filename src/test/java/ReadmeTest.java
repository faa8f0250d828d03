/** What README.md tells under "Use" is so. */
public final class ReadmeTest {
    public static void main(String[] args) {
        CoreHouse house = begun();
        Check.same("run", house.run(10), 4);
        Check.same("x1", house.core(0, 1), 5);
        CoreHouse slow = begun();
        Check.same("fetch", slow.step(0), 2);
        Check.same("GETS", slow.message(0, 0), 0);
        Check.yes("to the home", slow.deliver(0));
        Check.same("GIVE E", slow.message(0, 0), 7);
        Check.yes("to the core", slow.deliverOn(2, 0));
        Check.same("li", slow.step(0), 1);
        CoreHouse played = begun();
        Check.same("play", Check.play(played, "s0 m00 r20 s0"), 0);
        Check.same("x1", played.core(0, 1), 5);
        Check.same("retired", played.total(2), slow.total(2));
        Check.same("messages", played.total(1), slow.total(1));
        Check.end();
    }

    private static CoreHouse begun() {
        CoreHouse house = new CoreHouse();
        Check.yes("sizes", house.sizes(2, 4, 1, 2, 4, 1));
        Check.yes("type", house.type(0x6c692078312c353bL, 8));
        Check.yes("type", house.type(0x6563616c6c3bL, 6));
        Check.same("words", house.assemble(), 2);
        return house;
    }
}
