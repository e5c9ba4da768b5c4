import java.io.IOException;
import java.nio.file.Files;
import java.nio.file.Path;
import java.util.ArrayList;
import java.util.List;

/** What README.md shows of the class's use stands here to the letter, and answers what is said there. */
public final class ReadmeTest {
    private static final Due DUE = new Due();

    public static void main(String[] args) throws IOException {
        DUE.part("README.md");
        example();
        theSameLines();
        DUE.end();
    }

    private static void example() {
        // README begins
        TagReaders x = new TagReaders();
        x.power(0, true);                           // READER 0 is ON
        x.tag(0, 0x00010000, 1);                    // TAG 0: its MEMORY (the ID in front), its REACH (READER 0)
        x.tag(1, 0x80000000, 1);
        x.tag(2, 0xC0000000, 1);

        // READER 0 TAKES STOCK: of SESSION 2, of all TAGS that are A there, by a TREE.
        int queries = x.queries(0, 2, 0, 0);        // 5: so many QUERIES these TAGS need
        int of = x.begin(0, 2, 0, 0, 1);            // 3: so many TAGS are of it
        int ticks = x.lasts(0);                     // 5: in thought, nothing of it stays
        int tick = x.tick(ticks);                   // 5: it is OVER
        int first = x.read(0, 0);                   // 0: TAG 0 was READ first
        int flag = x.tagOf(0, 2);                   // 1: its FLAG of SESSION 2 is B now
        boolean put = x.put(0, first, 16, 8, 0xA5); // true: 8 bits of its MEMORY from bit 16 on
        int bits = x.bits(first, 16, 8);            // 165

        // It SELECTS those whose bit 0 is 1, then takes stock of these by SLOTS, if they are B.
        int selected = x.select(0, 4, 0, 0, 1, 1);  // 2: TAGS 1 and 2
        boolean kept = x.image(true);               // true: THE IMAGE is taken
        x.state(0);                                 // all DRAWS go by STATE
        x.tune(0, 0, 8);                            // QF in EIGHTHS: a FRAME of 2 SLOTS
        int chosen = x.begin(0, 2, 1, 1, 0);        // 2
        int slots = x.lasts(0);                     // 4: EMPTY, a CLASH, two SINGLES
        x.tick(slots);
        int frames = x.reader(0, 15);               // 2 FRAMES were begun
        int outcome = x.log(0, 2);                  // 4: the latest line of THE LOG says OVER

        // Back to THE IMAGE: nothing of it was.
        boolean back = x.image(false);              // true
        int now = x.look(0);                        // 5

        // What can't be is answered, never thrown.
        boolean second = x.tag(0, 0, 1);            // false: TAG 0 is there
        int nobody = x.read(0, 3);                  // NONE: three were READ
        // README ends
        int[] got = {queries, of, ticks, tick, first, flag, put ? 1 : 0, bits, selected, kept ? 1 : 0, chosen, slots,
            frames, outcome, back ? 1 : 0, now, second ? 1 : 0, nobody};
        int[] due = {5, 3, 5, 5, 0, 1, 1, 165, 2, 1, 2, 4, 2, 4, 1, 5, 0, TagReaders.NONE};
        for (int i = 0; i < due.length; i++) {
            DUE.is("answer " + i, got[i], due[i]);
        }
    }

    private static void theSameLines() throws IOException {
        List<String> here = between("src/test/java/ReadmeTest.java", "// README begins", "// README ends");
        List<String> there = between("README.md", "```java", "```");
        DUE.is("lines", there.size(), here.size());
        for (int i = 0; i < Math.min(here.size(), there.size()); i++) {
            DUE.is(there.get(i), there.get(i).equals(here.get(i)), true);
        }
    }

    private static List<String> between(String file, String begins, String ends) throws IOException {
        List<String> lines = new ArrayList<>();
        boolean inside = false;
        for (String line : Files.readAllLines(Path.of(file))) {
            String bare = line.trim();
            if (inside && bare.equals(ends)) {
                return lines;
            }
            if (inside) {
                lines.add(bare);
            }
            inside |= bare.equals(begins);
        }
        return lines;
    }
}
