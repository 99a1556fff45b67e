import java.nio.file.Path;

/** Every sentence of the document by tests that quote it, each boundary case by one of its own (src/test/cases). */
public final class SentencesTest {
  public static void main(String[] args) throws Exception {
    Document document = new Document(Path.of("../shared/DOC.md"));
    Cases[] all = {
      new ChurchCases(document), new ParishCases(document), new RightCases(document), new LotCases(document),
      new SeatingCases(document), new ChangeCases(document), new SundayCases(document), new RowCases(document),
      new WholeCases(document)
    };
    int tests = 0;
    int wrong = 0;
    for (Cases some : all) {
      some.all();
      tests += some.tests();
      wrong += some.wrong();
    }
    String unquoted = document.unquoted();
    System.out.print(unquoted);
    boolean holds = wrong == 0 && unquoted.isEmpty();
    System.out.println(holds ? tests + " tests of all sentences hold" : wrong + " answers are not as due, in " + tests + " tests");
    if (!holds) System.exit(1);
  }
}
