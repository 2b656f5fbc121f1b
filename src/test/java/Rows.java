import java.util.ArrayList;
import java.util.List;

/**
 * Runs of calls, each on a new object, told in rows.
 * A row is a call, its numbers, and behind = what it answers (or IOOBE, IAE, ISE, NSEE, UOE, what it throws).
 * A text in quotes is told by feed and end ahead of its call; so are bytes in brackets.
 */
final class Rows {
    private int rows = 0;
    private int wrong = 0;

    /** A run on a new object. */
    void run(String label, String text) {
        Face face = new Face();
        for (String line : text.split("\n")) {
            if (!line.isBlank()) {
                row(label, face, line.strip());
            }
        }
    }

    void must(boolean is, String what) {
        rows++;
        if (!is) {
            wrong++;
            System.out.println(what);
        }
    }

    /** Tells what came of it, and ends the program if something was wrong. */
    void close() {
        System.out.println(rows + " answers held against the document, " + wrong + " are wrong");
        if (wrong != 0) {
            System.exit(1);
        }
    }

    private void row(String label, Face face, String line) {
        int equals = line.lastIndexOf('=');
        String want = line.substring(equals + 1).strip();
        String call = line.substring(0, equals).strip();
        int told = Math.max(call.indexOf('"'), call.indexOf('['));
        if (told >= 0) {
            tell(face, call.charAt(told) == '"' ? quoted(call, told) : bracketed(call, told));
            call = call.substring(0, told).strip();
        }
        List<String> words = new ArrayList<>(List.of(call.split(" +")));
        String name = words.remove(0);
        int[] numbers = words.stream().mapToInt(Integer::parseInt).toArray();
        String got = face.call(name, numbers);
        must(got.equals(spelt(want)), label + ": " + line + ": answered " + got);
    }

    private static String spelt(String want) {
        switch (want) {
            case "IOOBE": return "throws.IndexOutOfBoundsException";
            case "IAE": return "throws.IllegalArgumentException";
            case "ISE": return "throws.IllegalStateException";
            case "NSEE": return "throws.NoSuchElementException";
            case "UOE": return "throws.UnsupportedOperationException";
            default: return want;
        }
    }

    private static byte[] quoted(String call, int told) {
        return Face.bytes(call.substring(told + 1, call.lastIndexOf('"')));
    }

    private static byte[] bracketed(String call, int told) {
        String within = call.substring(told + 1, call.lastIndexOf(']')).strip();
        String[] numbers = within.isEmpty() ? new String[0] : within.split(" +");
        byte[] bytes = new byte[numbers.length];
        for (int i = 0; i < bytes.length; i++) {
            bytes[i] = (byte) Integer.parseInt(numbers[i]);
        }
        return bytes;
    }

    private static void tell(Face face, byte[] bytes) {
        face.call("end", 0);
        for (int[] five : Face.feeds(bytes)) {
            face.call("feed", five);
        }
        if (!face.call("end", bytes.length).equals("1")) {
            throw new IllegalStateException("the text does not fit on the TAPE");
        }
    }

    // ---- parts of runs that many need ----

    /** A row, or several, so many times. */
    static String times(int n, String rows) {
        return (rows + "\n").repeat(n);
    }

    /** A LODGER who is always there. */
    static String lodger(String rest) {
        return "lodger burns 1 home 0 to 47 " + rest;
    }

    /** Texts that come one behind another. */
    static String houses(String... texts) {
        StringBuilder rows = new StringBuilder();
        for (int i = 0; i < texts.length; i++) {
            rows.append("house \"").append(texts[i]).append("\" = ").append(i + 1).append("\n");
        }
        return rows.toString();
    }

    /** fault() behind each text, which is wrong there; NONE if it is right. */
    static String faults(String call, Object... textsAndBytes) {
        StringBuilder rows = new StringBuilder();
        for (int i = 0; i < textsAndBytes.length; i += 2) {
            StringBuilder bytes = new StringBuilder();
            for (byte b : Face.bytes((String) textsAndBytes[i])) {
                bytes.append(Byte.toUnsignedInt(b)).append(" ");
            }
            rows.append(call).append(" [").append(bytes).append("] = IAE\nfault = ").append(textsAndBytes[i + 1]).append("\n");
        }
        return rows.toString();
    }
}
