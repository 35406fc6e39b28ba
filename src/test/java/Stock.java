/** Objects that are all made in one way: an object is promised to answer 512 calls, so a new one comes in time. */
final class Stock {
    private static final int CALLS = 400;

    private final Check.Made made;
    private Chamberwright now;
    private int left = 0;

    Stock(Check.Made made) {
        this.made = made;
    }

    /** An object for one call that changes nothing. */
    Chamberwright x() {
        if (left == 0) {
            now = made.anew();
            left = CALLS;
        }
        left--;
        return now;
    }
}
