/** Each sentence of the document, and the boundary cases that it names, by a test of its own. */
public final class PlateauBenchBounds {
    private PlateauBenchBounds() {
    }

    public static void main(String[] args) {
        GridBounds.all();
        NetBounds.all();
        FilmBounds.all();
        FoamBounds.all();
        Refusals.all();
        Doc.eachIsTested();
        Check.end();
    }
}
