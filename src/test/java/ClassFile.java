import java.io.ByteArrayInputStream;
import java.io.DataInputStream;
import java.io.IOException;
import java.nio.file.Files;
import java.nio.file.Path;
import java.util.Set;
import java.util.TreeSet;

/** What a compiled class names of other classes, by its constant pool (The Java Virtual Machine Specification, 4.4). */
final class ClassFile {
    private static final int UTF8 = 1, INTEGER = 3, FLOAT = 4, LONG = 5, DOUBLE = 6, CLASS = 7, STRING = 8;
    private static final int FIELD = 9, METHOD = 10, INTERFACE_METHOD = 11, NAME_AND_TYPE = 12;
    private static final int METHOD_HANDLE = 15, METHOD_TYPE = 16, DYNAMIC = 17, INVOKE_DYNAMIC = 18;

    private int[] tags;
    private int[] first;
    private int[] second;
    private String[] words;

    ClassFile(Path file) throws IOException {
        DataInputStream in = new DataInputStream(new ByteArrayInputStream(Files.readAllBytes(file)));
        // The magic number and the version.
        in.readInt();
        in.readInt();
        int count = in.readUnsignedShort();
        tags = new int[count];
        first = new int[count];
        second = new int[count];
        words = new String[count];
        for (int n = 1; n < count; n++) {
            read(in, n);
            // These two take two numbers of the pool.
            n += tags[n] == LONG || tags[n] == DOUBLE ? 1 : 0;
        }
    }

    private void read(DataInputStream in, int n) throws IOException {
        tags[n] = in.readUnsignedByte();
        switch (tags[n]) {
            case UTF8:
                words[n] = in.readUTF();
                break;
            case INTEGER: case FLOAT:
                in.readInt();
                break;
            case LONG: case DOUBLE:
                in.readLong();
                break;
            case CLASS: case STRING: case METHOD_TYPE:
                first[n] = in.readUnsignedShort();
                break;
            case METHOD_HANDLE:
                in.readUnsignedByte();
                in.readUnsignedShort();
                break;
            case FIELD: case METHOD: case INTERFACE_METHOD: case NAME_AND_TYPE: case DYNAMIC: case INVOKE_DYNAMIC:
                first[n] = in.readUnsignedShort();
                second[n] = in.readUnsignedShort();
                break;
            default:
                throw new IOException("no such tag: " + tags[n]);
        }
    }

    /** class.member of each field and method that it names of any class. */
    Set<String> members() {
        Set<String> members = new TreeSet<>();
        for (int n = 1; n < tags.length; n++) {
            if (tags[n] == FIELD || tags[n] == METHOD || tags[n] == INTERFACE_METHOD) {
                members.add(words[first[first[n]]].replace('/', '.') + "." + words[first[second[n]]]);
            }
        }
        return members;
    }

    /** Whether it has a lambda, a method reference, or texts joined by +. */
    boolean isDynamic() {
        for (int tag : tags) {
            if (tag == DYNAMIC || tag == INVOKE_DYNAMIC || tag == METHOD_HANDLE || tag == METHOD_TYPE) {
                return true;
            }
        }
        return false;
    }
}
