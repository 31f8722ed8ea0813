/** Every sentence of the terms and of the promises that names an edge, with a test of its own. */
public final class EdgesTest {
    public static void main(String[] args) {
        EdgesOfTrays.run();
        EdgesOfLands.run();
        EdgesOfTreaties.run();
        EdgesOfMail.run();
        EdgesOfFlows.run();
        EdgesOfBags.run();
        EdgesOfBooks.run();
        EdgesOfRefusals.run();
        Edge.end();
    }
}
