import java.io.IOException;
import java.nio.file.Files;
import java.nio.file.Path;
import java.util.ArrayList;
import java.util.List;

/**
 * Writes a copy of the class whose objects fail at their 513th call: the document promises nothing from there on, so a
 * test that passes with the class but not with the copy asks for too much.
 */
final class CountedCopy {
    private static final int METHODS = 41;
    private static final String CONSTRUCTOR = "    public Rootrows() {";
    // An error, as an exception might be taken for one that the document names.
    private static final String COUNTER = String.join("\n",
            "    private int calls = 0;",
            "",
            "    private void countCall() {",
            "        calls++;",
            "        if (calls > 512) {",
            "            throw new AssertionError(\"call \" + calls + \" of an object\");",
            "        }",
            "    }",
            "");

    private static boolean beginsMethod(String line) {
        return line.startsWith("    public ") && line.contains("(") && !line.equals(CONSTRUCTOR);
    }

    private static List<String> counted(List<String> lines) {
        List<String> copy = new ArrayList<>();
        boolean isInHead = false;
        int methods = 0;
        for (String line : lines) {
            if (line.equals(CONSTRUCTOR)) {
                copy.add(COUNTER);
            }
            copy.add(line);
            isInHead |= beginsMethod(line);
            if (isInHead && line.endsWith("{")) {
                copy.add("        countCall();");
                methods++;
                isInHead = false;
            }
        }
        if (methods != METHODS) {
            throw new IllegalStateException(methods + " methods found, not " + METHODS);
        }
        return copy;
    }

    public static void main(String[] args) throws IOException {
        Files.write(Path.of(args[1]), counted(Files.readAllLines(Path.of(args[0]))));
    }
}
