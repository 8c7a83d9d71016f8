import java.io.ByteArrayInputStream;
import java.io.DataInputStream;
import java.io.IOException;
import java.nio.file.DirectoryStream;
import java.nio.file.Files;
import java.nio.file.Path;
import java.util.Set;

/**
 * What javac made of the class uses no more of the library than LANGUAGE.md 4 lists: looked up in the tables of
 * names of PickedMatch*.class, whose directory is the first argument.
 */
public final class LibraryTest {
    private static final Set<String> LISTED = Set.of("Object.<init>()V",
        "String.length()I", "String.charAt(I)C", "String.isEmpty()Z", "String.equals(Ljava/lang/Object;)Z",
        "String.indexOf(I)I", "String.substring(I)Ljava/lang/String;", "String.substring(II)Ljava/lang/String;",
        "String.toCharArray()[C", "String.<init>([C)V", "System.arraycopy(Ljava/lang/Object;ILjava/lang/Object;II)V");
    private static final String FUNCTION = "(Integer|Long|Math)\\.\\w+(?<!Exact)\\([IJ]+\\)[IJZ]";
    private static final String BUILDER = "StringBuilder\\.(<init>\\(\\)V|append\\((C|I|Ljava/lang/String;)\\).*|charAt\\(I\\)C"
        + "|setCharAt\\(IC\\)V|setLength\\(I\\)V|deleteCharAt\\(I\\).*|reverse\\(\\).*|length\\(\\)I|toString\\(\\).*)";
    private static final String LISTS = "java/util/(ArrayList|List)\\.(<init>\\(\\)V|add\\(I?Ljava/lang/Object;\\).|get\\(I\\).*"
        + "|set\\(I.*|remove\\(I\\).*|size\\(\\)I|isEmpty\\(\\)Z|clear\\(\\)V|iterator\\(\\).*|of\\((Ljava/lang/Object;){0,6}\\).*)"
        + "|java/util/Iterator\\.(hasNext\\(\\)Z|next\\(\\).*)"
        + "|java/util/Arrays\\.(copyOf|copyOfRange|fill)\\(\\[[IJSBCZDF].*|Integer\\.(valueOf\\(I\\).*|intValue\\(\\)I)";
    private static int wrong = 0;
    private static int used = 0;

    private static void fault(Path file, String what) {
        wrong++;
        System.out.println("LibraryTest: " + file.getFileName() + ": " + what);
    }

    /** Each entry as text: a name as it is, a reference as the places that it names, behind its kind. */
    private static String[] table(Path file, DataInputStream in) throws IOException {
        in.readLong();
        String[] table = new String[in.readUnsignedShort()];
        for (int i = 1; i < table.length; i++) {
            int kind = in.readUnsignedByte();
            switch (kind) {
                case 1: table[i] = in.readUTF(); break;
                case 3: case 4: in.readInt(); break;
                case 5: case 6: in.readLong(); i++; break;
                case 7: case 8: table[i] = kind + " " + in.readUnsignedShort(); break;
                case 9: case 10: case 11: case 12:
                    table[i] = kind + " " + in.readUnsignedShort() + " " + in.readUnsignedShort();
                    break;
                default:
                    // a lambda, a method reference, texts joined by +, a record: none of the class's language
                    fault(file, "an entry of kind " + kind);
                    return new String[0];
            }
        }
        return table;
    }

    private static String named(String[] table, String place) {
        return table[Integer.parseInt(place)];
    }

    private static void text(Path file, String text) {
        for (char sign : text.toCharArray()) {
            if (sign < 1 || sign > 127) fault(file, "a constant with sign " + (int) sign);
        }
    }

    private static void member(Path file, String[] table, String[] parts) {
        String owner = named(table, named(table, parts[1]).split(" ")[1]);
        String[] own = named(table, parts[2]).split(" ");
        if (owner.startsWith("PickedMatch")) return;
        String member = owner.replaceFirst("^java/lang/", "") + "." + named(table, own[1])
            + (parts[0].equals("9") ? " " : "") + named(table, own[2]);
        used++;
        boolean isClone = owner.startsWith("[") && member.contains(".clone()");
        boolean isListed = LISTED.contains(member) || member.matches(FUNCTION) || member.matches(BUILDER)
            || member.matches(LISTS) || isClone;
        if (!isListed) fault(file, "not listed: " + member);
    }

    private static void look(Path file) throws IOException {
        String[] table = table(file, new DataInputStream(new ByteArrayInputStream(Files.readAllBytes(file))));
        for (String entry : table) {
            String[] parts = entry == null ? new String[0] : entry.split(" ");
            if (parts.length == 3 && entry.matches("(9|10|11) \\d+ \\d+")) member(file, table, parts);
            if (parts.length == 2 && entry.matches("8 \\d+")) text(file, named(table, parts[1]));
        }
    }

    public static void main(String[] args) throws IOException {
        int files = 0;
        try (DirectoryStream<Path> all = Files.newDirectoryStream(Path.of(args[0]), "PickedMatch*.class")) {
            for (Path file : all) {
                files++;
                look(file);
            }
        }
        if (files == 0 || used == 0) fault(Path.of(args[0]), "nothing was found");
        System.out.println(wrong == 0 ? "LibraryTest: the library is used as LANGUAGE.md lists it" : "LibraryTest: " + wrong + " faults");
        System.exit(wrong == 0 ? 0 : 1);
    }
}
