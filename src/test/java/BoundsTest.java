/**
 * Each sentence of the document that names a boundary has rows of its own, which would not hold if
 * it did not: the last value that is allowed and the first one that is not, empty and full, what
 * is refused.
 */
public final class BoundsTest {
    public static void main(String[] args) {
        TrackBounds.all();
        CarsBounds.all();
        TickBounds.all();
        OrderTextBounds.all();
        UndoBounds.all();
        QueryBounds.all();
        ForesightBounds.all();
        Doc.everythingIsQuoted();
        Check.end();
    }
}
