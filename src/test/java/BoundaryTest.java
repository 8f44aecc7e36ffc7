import java.nio.file.Files;
import java.nio.file.Path;

/**
 * Each sentence of the document that names a boundary case, by itself.
 * With the document's path as argument it tells, too, what of the document no test quotes.
 */
public final class BoundaryTest {
    public static void main(String[] args) throws Exception {
        Boundaries[] parts = {new TextBoundaries(), new NightBoundaries(), new AnswerBoundaries()};
        int wrong = 0;
        int checks = 0;
        int sentences = 0;
        for (Boundaries part : parts) {
            part.run();
            part.close();
            wrong += part.wrong;
            checks += part.checks;
            sentences += part.quotes.size();
        }
        if (args.length > 0) {
            wrong += compareWith(Files.readString(Path.of(args[0])), parts);
        }
        System.out.println(wrong == 0 ? sentences + " sentences hold in " + checks + " answers" : wrong + " answers are wrong");
        System.exit(wrong == 0 ? 0 : 1);
    }

    /** Tells which quotes the document has not and what is left of it when all quotes are gone. */
    private static int compareWith(String document, Boundaries[] parts) {
        String[] sections = document.replaceAll("\\s+", " ").split("(?=## Promise \\d+:|## Not promised)");
        StringBuilder[] left = new StringBuilder[sections.length];
        for (int i = 0; i < left.length; i++) {
            left[i] = new StringBuilder(sections[i]);
        }
        int wrong = 0;
        for (Boundaries part : parts) {
            for (Boundaries.Quote quote : part.quotes) {
                int at = sections[quote.promise()].indexOf(quote.words());
                if (at < 0) {
                    wrong++;
                    System.out.println("the document has no such words: " + quote);
                }
                for (int i = at; at >= 0 && i < at + quote.words().length(); i++) {
                    left[quote.promise()].setCharAt(i, '\n');
                }
            }
        }
        for (StringBuilder b : left) {
            System.out.println(b.toString().replaceAll("[ \n]*\n[ \n]*", " | "));
        }
        return wrong;
    }
}
