import java.util.ArrayList;
import java.util.List;

/** What the tests of edges share: a sentence of the document, and the stories that hold it to its words. */
class Edges {
    /** Five DISKS. STRIPE 0: P on 4, Q on 0, PARTS on 1 2 3. STRIPE 1: P on 3, Q on 4, PARTS on 0 1 2. */
    static final String SMALL = "shelf 'sd3t2c1' -> 6";
    /** The same, two spares, PARTS 5, 3, 1 of STRIPE 0: P 7, Q 5 ^ 6 ^ 4 = 7. */
    static final String FILLED = "shelf 'sd3t2c1k2;vx5;va1x3;va2x1' -> 6";

    final Check check = new Check();

    final void edge(String sentence, String... lines) {
        new Story(check, sentence, lines).tell();
    }

    /** Both stories leave the same, but for STATUS. */
    final void alike(String sentence, String[] one, String[] other) {
        Story.alike(check, sentence, new Story(check, sentence + " (one)", one), new Story(check, sentence + " (other)", other));
    }

    /** The FAULTS of texts: each text, then where it is. */
    final void faults(int sort, String sentence, Object... textsAndPlaces) {
        for (int i = 0; i < textsAndPlaces.length; i += 2) {
            String text = (String) textsAndPlaces[i];
            edge(sentence + ": '" + text + "'", "tape '" + text + "'", "fault " + sort + " -> " + textsAndPlaces[i + 1]);
        }
    }

    /** Lines one behind another; a part is a line or an array of lines. */
    static String[] lines(Object... parts) {
        List<String> all = new ArrayList<>();
        for (Object part : parts) {
            if (part instanceof String[]) {
                all.addAll(List.of((String[]) part));
            } else {
                all.add((String) part);
            }
        }
        return all.toArray(new String[0]);
    }

    /** Lines many times over; # in them is 0, 1, 2 .. */
    static String[] times(int many, String... lines) {
        List<String> all = new ArrayList<>();
        for (int i = 0; i < many; i++) {
            for (String line : lines) {
                all.add(line.replace("#", Integer.toString(i)));
            }
        }
        return all.toArray(new String[0]);
    }

    /** What a call answers with 0, 1, 2 .. behind its numbers. */
    static String[] row(String call, Object... answers) {
        List<String> all = new ArrayList<>();
        for (int i = 0; i < answers.length; i++) {
            all.add(call + " " + i + " -> " + answers[i]);
        }
        return all.toArray(new String[0]);
    }

    /** The BYTES 0 of a STRIPE, DISK by DISK. */
    static String[] cells(int stripe, Object... answers) {
        List<String> all = new ArrayList<>();
        for (int disk = 0; disk < answers.length; disk++) {
            all.add("cell " + disk + " " + stripe + " 0 -> " + answers[disk]);
        }
        return all.toArray(new String[0]);
    }
}
