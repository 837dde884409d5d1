/** The example of README.md answers what is told beside it. */
public final class ReadmeTest {
    private static final Due due = new Due();

    public static void main(String[] args) {
        HourStore x = new HourStore();
        due.is("time(4)", x.time(4), 0);
        due.is("world(0, 1, 4)", x.world(0, 1, 4), 4);
        due.is("price(0, 0, 3)", x.price(0, 0, 3), 0);
        due.is("price(0, 2, 10)", x.price(0, 2, 10), 0);
        due.is("store", x.store(0, 0, 5, 21 * 2 + 2, 101 * 1), 0);
        due.is("about(0, 5)", x.about(0, 5), 1);
        due.is("about(0, 6)", x.about(0, 6), 0);
        due.is("best(0, 1)", x.best(0, 1), 20);
        due.is("planned(0, 1)", x.planned(0, 1), 2);
        due.is("live(0, 0)", x.live(0, 0), 4);
        due.is("check()", x.check(), Due.NONE);
        due.end();
    }
}
