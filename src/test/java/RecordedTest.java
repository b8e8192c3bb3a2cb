import java.io.File;
import java.io.IOException;
import java.nio.charset.StandardCharsets;
import java.nio.file.Files;
import java.util.Arrays;

/**
 * Plays the runs under src/test/runs: fonts and programs by chance, with the answers of two other
 * programs for the same document, built another way by the same hand (they find slips, not misreadings).
 * A row is a call, its arguments, "=" and the answer; "new" begins an object; "bytes" feeds bytes,
 * eight a call.
 */
public final class RecordedTest {
    public static void main(String[] args) throws IOException {
        File[] files = new File("src/test/runs").listFiles((dir, name) -> name.endsWith(".txt"));
        if (files == null || files.length == 0) {
            Check.due("files under src/test/runs", 0, 1);
            Check.done();
            return;
        }
        Arrays.sort(files);
        for (File file : files) {
            play(file);
        }
        Check.done();
    }

    private static void play(File file) throws IOException {
        HintHouse house = new HintHouse();
        int number = 0;
        for (String row : Files.readAllLines(file.toPath(), StandardCharsets.US_ASCII)) {
            number++;
            String[] words = row.split(" ");
            if (words[0].equals("new")) {
                house = new HintHouse();
            } else if (words[0].equals("bytes")) {
                FontKit.feed(house, hex(words[1]));
            } else {
                long x = words.length > 3 ? Long.parseLong(words[1]) : 0;
                long y = words.length > 4 ? Long.parseLong(words[2]) : 0;
                long due = Long.parseLong(words[words.length - 1]);
                Check.due(file.getName() + ":" + number + " " + row, call(house, words[0], (int) x, y), due);
            }
        }
    }

    private static byte[] hex(String text) {
        byte[] bytes = new byte[text.length() / 2];
        for (int i = 0; i < bytes.length; i++) {
            bytes[i] = (byte) Integer.parseInt(text.substring(2 * i, 2 * i + 2), 16);
        }
        return bytes;
    }

    private static long call(HintHouse house, String name, int x, long wide) {
        int y = (int) wide;
        switch (name) {
            case "feed": return house.feed(x, wide);
            case "wipe": return house.wipe();
            case "load": return house.load();
            case "font": return house.font(x);
            case "table": return house.table(x, y);
            case "glyphOf": return house.glyphOf(x);
            case "glyph": return house.glyph(x, y);
            case "kern": return house.kern(x, y);
            case "size": return house.size(x);
            case "make": return house.make(x);
            case "point": return house.point(x, y);
            case "told": return house.told(x);
            case "held": return house.held(x, y);
            case "isIn": return house.isIn(x, y);
            case "canvas": return house.canvas(x, y);
            case "draw": return house.draw(x, y);
            case "pixel": return house.pixel(x, y);
            case "type": return house.type(x);
            case "line": return house.line(x, y);
            default: throw new IllegalArgumentException(name);
        }
    }
}
