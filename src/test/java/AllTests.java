/** Runs every test of the project; ends with exit code 1 if an answer is not the one that is due. */
final class AllTests {
    private AllTests() {
    }

    public static void main(String[] args) {
        Due due = new Due();
        FaceTest.check(due);
        FunctionsTest.check(due);
        SearchTest.check(due);
        ViewsTest.check(due);
        WouldBeTest.check(due);
        StatesTest.check(due);
        TextsTest.check(due);
        Edges.check(due);
        ModelTest.check(due);
        System.out.println("answers as due: " + due.right() + ", not as due: " + due.wrong());
        if (due.wrong() > 0 || due.right() == 0) {
            System.exit(1);
        }
    }
}
