import java.io.IOException;
import java.nio.file.Files;
import java.nio.file.Path;

/**
 * Each sentence of the document that names an edge has a test of its own, which begins by quoting it.
 * The second argument is the document's path: a quote that does not stand there, or words of a term or promise that no
 * test quotes, are wrong, too.
 */
public final class EdgesTest {
    private static final Check check = new Check("EdgesTest");

    private static Sentences read(Path document) throws IOException {
        if (!Files.exists(document)) {
            System.out.println("EdgesTest: there is no " + document + ", quotes are not looked up");
            return null;
        }
        return new Sentences(Files.readString(document));
    }

    private static void allIsQuoted(Sentences sentences) {
        check.due("promises in the document", sentences.promises(), 33);
        for (String words : sentences.unquoted()) {
            check.wrong("no test quotes " + words);
        }
    }

    public static void main(String[] args) throws IOException {
        Sentences sentences = read(Path.of(args.length > 1 ? args[1] : "../shared/DOC.md"));
        Edges edges = new Edges(check, sentences);
        new EdgesOfTerms(edges).all();
        new EdgesOfPeople(edges).all();
        new EdgesOfTexts(edges).all();
        new EdgesOfDone(edges).all();
        new EdgesOfForetold(edges).all();
        new EdgesOfSheets(edges).all();
        edges.end();
        if (sentences != null) {
            allIsQuoted(sentences);
        }
        check.end();
    }
}
