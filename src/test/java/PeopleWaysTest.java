public final class PeopleWaysTest {
    private static final Due due = new Due();

    public static void main(String[] args) {
        TattooRoads x = new TattooRoads();
        due.is("count 0", 0, x.count(0));
        due.end();
    }
}
