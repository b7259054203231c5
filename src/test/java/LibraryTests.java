import java.io.DataInputStream;
import java.io.IOException;
import java.nio.file.Files;
import java.nio.file.Path;
import java.util.ArrayList;
import java.util.List;
import java.util.Set;
import java.util.TreeSet;
import java.util.stream.Stream;

// What of Java's library stands in the compiled class, against rules 4 and 6 of LANGUAGE.md. Joining
// texts by +, lambdas and method references would stand there too, as classes of java.lang.invoke.
public final class LibraryTests {
    private static final Set<String> LISTED = Set.of(
        "java/lang/String.length()I", "java/lang/String.charAt(I)C", "java/lang/Object.<init>()V",
        "java/lang/StringBuilder.<init>()V", "java/lang/StringBuilder.length()I",
        "java/lang/StringBuilder.charAt(I)C", "java/lang/StringBuilder.setLength(I)V",
        "java/lang/StringBuilder.append(I)Ljava/lang/StringBuilder;",
        "java/lang/StringBuilder.append(C)Ljava/lang/StringBuilder;",
        "java/lang/Integer.bitCount(I)I", "java/lang/Math.max(II)I", "java/lang/Math.min(II)I",
        "java/lang/System.arraycopy(Ljava/lang/Object;ILjava/lang/Object;II)V",
        "java/lang/UnsupportedOperationException.<init>(Ljava/lang/String;)V",
        "java/lang/IllegalStateException.<init>(Ljava/lang/String;)V",
        "java/lang/IllegalArgumentException.<init>(Ljava/lang/String;)V",
        "java/lang/IndexOutOfBoundsException.<init>(Ljava/lang/String;)V",
        "java/lang/ArithmeticException.<init>(Ljava/lang/String;)V",
        "java/util/NoSuchElementException.<init>(Ljava/lang/String;)V");
    // What javac writes for an enum and for a switch on it.
    private static final Set<String> OF_ENUMS = Set.of(
        "java/lang/Enum.<init>(Ljava/lang/String;I)V",
        "java/lang/Enum.valueOf(Ljava/lang/Class;Ljava/lang/String;)Ljava/lang/Enum;");

    public static void main(String[] args) throws Exception {
        Path folder = Path.of(EchoCouncil.class.getProtectionDomain().getCodeSource().getLocation().toURI());
        List<Path> classes = new ArrayList<>();
        try (Stream<Path> files = Files.list(folder)) {
            files.filter(file -> file.getFileName().toString().matches("EchoCouncil(\\$.*)?\\.class")).forEach(classes::add);
        }
        Due.same("the class has classes inside", true, classes.size() > 1);
        Set<String> used = new TreeSet<>();
        for (Path file : classes) {
            used.addAll(new Constants(file).methods());
        }
        for (String method : used) {
            Due.same(method + " is listed", true, LISTED.contains(method) || OF_ENUMS.contains(method));
        }
        Due.same("a list of which nothing is used no more", Set.of(), without(LISTED, used));
        Due.end();
    }

    private static Set<String> without(Set<String> all, Set<String> some) {
        Set<String> rest = new TreeSet<>(all);
        rest.removeAll(some);
        return rest;
    }

    // The constants of a class file, in the form that the Java virtual machine's specification tells.
    private static final class Constants {
        private final int[] tags;
        private final int[] first;
        private final int[] second;
        private final String[] texts;

        Constants(Path file) throws IOException {
            try (DataInputStream in = new DataInputStream(Files.newInputStream(file))) {
                in.readInt();
                in.readInt();
                int count = in.readUnsignedShort();
                tags = new int[count];
                first = new int[count];
                second = new int[count];
                texts = new String[count];
                for (int place = 1; place < count; place++) {
                    read(in, place);
                    place += tags[place] == 5 || tags[place] == 6 ? 1 : 0;
                }
            }
        }

        private void read(DataInputStream in, int place) throws IOException {
            tags[place] = in.readUnsignedByte();
            switch (tags[place]) {
                case 1:
                    texts[place] = in.readUTF();
                    break;
                case 3:
                case 4:
                    in.readInt();
                    break;
                case 5:
                case 6:
                    in.readLong();
                    break;
                case 7:
                case 8:
                case 16:
                case 19:
                case 20:
                    first[place] = in.readUnsignedShort();
                    break;
                case 15:
                    first[place] = in.readUnsignedByte();
                    second[place] = in.readUnsignedShort();
                    break;
                default:
                    first[place] = in.readUnsignedShort();
                    second[place] = in.readUnsignedShort();
            }
        }

        // Methods of a class or an interface that is not of this program, and calls made at run time.
        Set<String> methods() {
            Set<String> methods = new TreeSet<>();
            for (int place = 1; place < tags.length; place++) {
                if (tags[place] == 18) {
                    methods.add("a call that is linked at run time");
                }
                if (tags[place] == 10 || tags[place] == 11) {
                    String owner = texts[first[first[place]]];
                    if (!owner.matches("\\[*L?EchoCouncil.*")) {
                        methods.add(owner + "." + texts[first[second[place]]] + texts[second[second[place]]]);
                    }
                }
            }
            return methods;
        }
    }
}
