public final class PromisesTest {
    public static void main(String[] args) {
        if (new SectionTemplates().run(0) != SectionTemplates.BAD) {
            System.exit(1);
        }
    }
}
