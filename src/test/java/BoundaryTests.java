// The boundary cases that the document names, each by a test of its own, and that no sentence is left out.
public final class BoundaryTests {
    public static void main(String[] args) {
        RefusalBoundaries.all();
        ChangeBoundaries.all();
        QuestionBoundaries.all();
        TextBoundaries.all();
        UndoBoundaries.all();
        Doc.allIsSaid();
        Due.end();
    }
}
