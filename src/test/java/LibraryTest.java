import java.io.DataInputStream;
import java.io.IOException;
import java.io.InputStream;
import java.util.Set;
import java.util.TreeSet;
import java.util.regex.Pattern;

/** LANGUAGE.md, rule 4: what the compiled classes call of the Java library, read off their constant pools. */
final class LibraryTest {
    private static final int MAGIC = 0xCAFEBABE;
    private static final int UTF8 = 1;
    private static final int LONG = 5;
    private static final int DOUBLE = 6;
    private static final int CLASS = 7;
    private static final int STRING = 8;
    private static final int METHOD = 10;
    private static final int INTERFACE_METHOD = 11;
    private static final int NAME_AND_TYPE = 12;
    private static final int METHOD_HANDLE = 15;
    private static final int METHOD_TYPE = 16;
    private static final int INVOKE_DYNAMIC = 18;

    /** The calls that rule 4 lists, those that the compiler puts for an enum, a record or a list's loop among them. */
    private static final Pattern LISTED = Pattern.compile(String.join("|",
            "java/lang/(Object|Enum|Record)\\.(<init>|ordinal|valueOf|clone)",
            "java/lang/String\\.(<init>|length|charAt|isEmpty|equals|indexOf|substring|toCharArray)",
            "java/lang/StringBuilder\\.(<init>|append|charAt|setCharAt|setLength|deleteCharAt|reverse|length|toString)",
            "java/util/(ArrayList|List)\\.(<init>|add|get|set|remove|size|isEmpty|clear|iterator|of)",
            "java/util/Iterator\\.(hasNext|next)", "java/lang/Iterable\\.iterator", "java/lang/Comparable\\.compareTo",
            "java/lang/(Integer|Long|Math)\\.\\w+(?<!Exact)", "java/lang/System\\.arraycopy",
            "java/util/Arrays\\.(copyOf|copyOfRange|fill)", "\\[.*\\.clone",
            "java/(lang|util)/(IllegalState|IllegalArgument|IndexOutOfBounds|Arithmetic|UnsupportedOperation"
                    + "|NoSuchElement|Runtime)Exception\\.<init>"));

    private final Check check;

    LibraryTest(Check check) {
        this.check = check;
    }

    void run() throws IOException {
        check.test("LANGUAGE.md, rule 4");
        Set<String> called = new TreeSet<>();
        readCalls(QualityGate.class, called);
        for (Class<?> inside : QualityGate.class.getDeclaredClasses()) {
            readCalls(inside, called);
        }
        check.due(false, called.isEmpty());
        for (String call : called) {
            check.due(call + " is listed", call + (LISTED.matcher(call).matches() ? " is listed" : " is not listed"));
        }
    }

    /** Adds the methods of other classes than the program's own that a class refers to. */
    private void readCalls(Class<?> from, Set<String> called) throws IOException {
        try (InputStream file = from.getResourceAsStream(from.getName() + ".class");
                DataInputStream data = new DataInputStream(file)) {
            check.due(MAGIC, data.readInt());
            data.readInt();
            int count = data.readUnsignedShort();
            String[] texts = new String[count];
            int[] firsts = new int[count];
            int[] seconds = new int[count];
            boolean[] isCall = new boolean[count];
            for (int i = 1; i < count; i++) {
                int tag = data.readUnsignedByte();
                isCall[i] = tag == METHOD || tag == INTERFACE_METHOD;
                // a lambda, a method reference and texts joined by + are called so; a record's own methods are, too
                check.due(true, tag != INVOKE_DYNAMIC || from.isRecord());
                if (tag == UTF8) {
                    texts[i] = data.readUTF();
                } else if (tag == CLASS || tag == STRING || tag == METHOD_TYPE) {
                    firsts[i] = data.readUnsignedShort();
                } else if (tag == LONG || tag == DOUBLE) {
                    data.readLong();
                    i++;
                } else if (tag == METHOD_HANDLE) {
                    data.readUnsignedByte();
                    data.readUnsignedShort();
                } else if (tag >= 9 && tag <= NAME_AND_TYPE || tag == INVOKE_DYNAMIC) {
                    firsts[i] = data.readUnsignedShort();
                    seconds[i] = data.readUnsignedShort();
                } else {
                    data.readInt();
                }
            }
            for (int i = 1; i < count; i++) {
                String owner = isCall[i] ? texts[firsts[firsts[i]]] : "QualityGate";
                if (!owner.startsWith("QualityGate")) {
                    called.add(owner + "." + texts[firsts[seconds[i]]]);
                }
            }
        }
    }
}
