import java.nio.file.Path;

/** Every sentence of the document that names a boundary case, each by a test of its own (src/test/cases). */
public final class BoundaryTest {
  public static void main(String[] args) throws Exception {
    Document document = new Document(Path.of("../shared/DOC.md"));
    Cases[] all = {
      new ChurchCases(document), new ParishCases(document), new RightCases(document), new LotCases(document),
      new SeatingCases(document), new ChangeCases(document), new SundayCases(document), new RowCases(document)
    };
    int tests = 0;
    int wrong = 0;
    for (Cases some : all) {
      some.all();
      tests += some.tests();
      wrong += some.wrong();
    }
    String unquoted = document.unquoted();
    System.out.print(unquoted);
    boolean holds = wrong == 0 && unquoted.isEmpty();
    System.out.println(holds ? tests + " boundary cases hold" : wrong + " answers are not as due, in " + tests + " tests");
    if (!holds) System.exit(1);
  }
}
