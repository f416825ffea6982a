import java.nio.file.Path;

/** Runs every test of the project; the argument is the path of CleaningRota.java. */
public final class AllTests {
    private AllTests() {
    }

    public static void main(String[] arguments) throws Exception {
        String source = arguments.length > 0 ? arguments[0] : "src/main/java/CleaningRota.java";
        FaceTest.run();
        LanguageTest.run(Path.of(source));
        ReadmeTest.run(Path.of("README.md"));
        HouseTest.run();
        WeekTest.run();
        SwapTest.run();
        NumbersTest.run();
        ForecastTest.run();
        TextTest.run();
        UndoTest.run();
        Document.read(Path.of("..", "shared", "DOC.md"));
        EdgesOfTerms.run();
        EdgesOfHouse.run();
        EdgesOfWeeks.run();
        EdgesOfSwaps.run();
        EdgesOfNumbers.run();
        EdgesOfForecasts.run();
        EdgesOfTexts.run();
        EdgesOfUndo.run();
        Document.allIsQuoted();
        RandomRunsTest.run();
        System.out.println("checks: " + Check.rightOnes() + " passed, " + Check.wrongOnes() + " failed");
        if (Check.wrongOnes() > 0) {
            System.exit(1);
        }
    }
}
