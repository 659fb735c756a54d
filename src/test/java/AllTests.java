import java.nio.file.Path;

/** All tests of the project; told the path of the program's text. */
public final class AllTests {
    private AllTests() {
    }

    public static void main(String[] args) throws Exception {
        PromiseTests.run();
        GardenBounds.run();
        SearchBounds.run();
        AskBounds.run();
        KeptBounds.run();
        RefusedBounds.run();
        StayBounds.run();
        SoundTests.run();
        GridTests.run();
        RoomTests.run();
        RandomRunTests.run(300, 0);
        FaceTests.run(Path.of("../shared/DOC.md"), Path.of("README.md"));
        LanguageTests.run(args.length > 0 ? args[0] : "src/main/java/Shortring.java");
        System.out.println(Checks.passed + " passed, " + Checks.failed + " failed");
        if (Checks.failed != 0 || Checks.passed == 0) {
            System.exit(1);
        }
    }
}
