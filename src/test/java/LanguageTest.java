import java.io.DataInputStream;
import java.io.IOException;
import java.io.InputStream;
import java.lang.reflect.Modifier;
import java.nio.ByteBuffer;
import java.util.ArrayList;
import java.util.List;
import java.util.Map;
import java.util.Set;
import java.util.TreeMap;
import java.util.TreeSet;

/** Rules of LANGUAGE.md that the compiled class shows: which of the library it calls, how deep, and no exceptions. */
public final class LanguageTest {
    /** Of what the rules list; a call that is not here is looked up there before it is added. */
    private static final Set<String> LIBRARY = Set.of("java/lang/Object.<init>", "java/lang/String.length",
        "java/lang/String.charAt", "java/lang/Integer.bitCount", "java/lang/Math.max", "java/lang/Math.min",
        "java/lang/Math.abs", "java/lang/System.arraycopy");
    private static final int DEEPEST = 8;
    private static final int MOST_FIELDS = 20;

    private static final int TABLE_SWITCH = 170;
    private static final int LOOKUP_SWITCH = 171;
    private static final int FIRST_INVOKE = 182;
    private static final int LAST_INVOKE = 185;
    private static final int INVOKE_DYNAMIC = 186;
    private static final int THROW = 191;
    private static final int LOCK = 194;
    private static final int WIDE = 196;

    private static final List<String> faults = new ArrayList<>();
    /** For each method of the class those that it calls. */
    private static final Map<String, TreeSet<String>> callees = new TreeMap<>();

    /** A class file's numbered constants, as far as calls need them. */
    private record Constants(String[] texts, int[] first, int[] second) {
        String nameOfClass(int at) {
            return texts[first[at]];
        }

        /** Named as owner.name; methods of one name and owner are taken for one. */
        String nameOfMember(int at) {
            return nameOfClass(first[at]) + "." + texts[first[second[at]]];
        }
    }

    public static void main(String[] args) throws IOException {
        List<Class<?>> classes = new ArrayList<>(List.of(HangedWords.class.getDeclaredClasses()));
        classes.add(HangedWords.class);
        for (Class<?> c : classes) {
            fields(c);
            constructors(c);
            try (InputStream in = HangedWords.class.getResourceAsStream(c.getName() + ".class")) {
                readClass(new DataInputStream(in));
            }
        }
        library();
        depth();
        faults.forEach(System.out::println);
        System.out.println(callees.size() + " methods looked at, " + faults.size() + " faults");
        if (!faults.isEmpty() || callees.isEmpty()) {
            System.exit(1);
        }
    }

    /** Rule 11: some twenty fields beside constants. */
    private static void fields(Class<?> c) {
        long own = List.of(c.getDeclaredFields()).stream()
                .filter(f -> !Modifier.isStatic(f.getModifiers())).count();
        if (own > MOST_FIELDS) {
            faults.add("rule 11: " + c.getName() + " has " + own + " fields");
        }
    }

    /** Rule 12: a constructor hands out nothing of the object that it makes, so none is given a part of another. */
    private static void constructors(Class<?> c) {
        for (var constructor : c.getDeclaredConstructors()) {
            for (Class<?> takes : constructor.getParameterTypes()) {
                if (!takes.isPrimitive()) {
                    faults.add("rule 12: a constructor of " + c.getName() + " is given a " + takes.getName());
                }
            }
        }
    }

    private static void library() {
        for (var method : callees.entrySet()) {
            for (String callee : method.getValue()) {
                if (!callees.containsKey(callee) && !LIBRARY.contains(callee)) {
                    faults.add("rule 4: " + method.getKey() + " calls " + callee);
                }
            }
        }
    }

    /** Rules 8, 11: there is no recursion, so the longest chain is what stands open at once. */
    private static void depth() {
        for (String method : callees.keySet()) {
            List<String> chain = longest(method, new ArrayList<>());
            if (chain.size() > DEEPEST) {
                faults.add("rule 11: calls go " + chain.size() + " deep: " + chain);
            }
        }
    }

    private static List<String> longest(String method, List<String> above) {
        List<String> deepest = List.of();
        if (above.contains(method)) {
            faults.add("rule 8: " + method + " calls itself");
        } else {
            List<String> here = new ArrayList<>(above);
            here.add(method);
            for (String callee : callees.getOrDefault(method, new TreeSet<>())) {
                List<String> chain = longest(callee, here);
                deepest = chain.size() > deepest.size() ? chain : deepest;
            }
        }
        List<String> whole = new ArrayList<>(List.of(method));
        whole.addAll(deepest);
        return whole;
    }

    // ---- a class file

    private static void readClass(DataInputStream in) throws IOException {
        in.skipNBytes(8);
        Constants constants = readConstants(in);
        in.skipNBytes(2);
        String owner = constants.nameOfClass(in.readUnsignedShort());
        in.skipNBytes(2);
        in.skipNBytes(2L * in.readUnsignedShort());
        readMembers(in, constants, owner, false);
        readMembers(in, constants, owner, true);
    }

    private static Constants readConstants(DataInputStream in) throws IOException {
        int size = in.readUnsignedShort();
        Constants constants = new Constants(new String[size], new int[size], new int[size]);
        for (int i = 1; i < size; i++) {
            int tag = in.readUnsignedByte();
            switch (tag) {
                case 1 -> constants.texts[i] = in.readUTF();
                case 7, 8, 16, 19, 20 -> constants.first[i] = in.readUnsignedShort();
                case 15 -> in.skipNBytes(3);
                case 3, 4 -> in.skipNBytes(4);
                case 5, 6 -> {
                    in.skipNBytes(8);
                    i++;
                }
                default -> {
                    constants.first[i] = in.readUnsignedShort();
                    constants.second[i] = in.readUnsignedShort();
                }
            }
        }
        return constants;
    }

    private static void readMembers(DataInputStream in, Constants constants, String owner, boolean areMethods)
            throws IOException {
        int members = in.readUnsignedShort();
        for (int i = 0; i < members; i++) {
            in.skipNBytes(2);
            String name = owner + "." + constants.texts[in.readUnsignedShort()];
            in.skipNBytes(2);
            if (areMethods) {
                callees.computeIfAbsent(name, n -> new TreeSet<>());
            }
            int attributes = in.readUnsignedShort();
            for (int a = 0; a < attributes; a++) {
                String attribute = constants.texts[in.readUnsignedShort()];
                byte[] content = new byte[in.readInt()];
                in.readFully(content);
                if (attribute.equals("Code")) {
                    readCode(ByteBuffer.wrap(content), constants, name);
                }
            }
        }
    }

    private static void readCode(ByteBuffer content, Constants constants, String method) {
        int length = content.getInt(4);
        ByteBuffer code = content.slice(8, length);
        if (content.getShort(8 + length) != 0) {
            faults.add("rule 6: " + method + " catches");
        }
        int at = 0;
        while (at < length) {
            int operation = code.get(at) & 255;
            if (operation >= FIRST_INVOKE && operation <= LAST_INVOKE) {
                callees.get(method).add(constants.nameOfMember(code.getShort(at + 1) & 65535));
            }
            if (operation == THROW || operation == LOCK) {
                faults.add("rule 6: " + method + " throws or locks");
            }
            if (operation == INVOKE_DYNAMIC) {
                faults.add("rules 2, 10: " + method + " has a lambda or joins texts by +");
            }
            at += lengthOf(code, at, operation);
        }
    }

    private static int lengthOf(ByteBuffer code, int at, int operation) {
        int operands = (at / 4 + 1) * 4;
        switch (operation) {
            case TABLE_SWITCH:
                return operands + 12 + 4 * (code.getInt(operands + 8) - code.getInt(operands + 4) + 1) - at;
            case LOOKUP_SWITCH:
                return operands + 8 + 8 * code.getInt(operands + 4) - at;
            case WIDE:
                return (code.get(at + 1) & 255) == 132 ? 6 : 4;
            case 16: case 18: case 169: case 188:
                return 2;
            case 185: case 186: case 200: case 201:
                return 5;
            case 197:
                return 4;
            case 17: case 19: case 20: case 132: case 187: case 189: case 192: case 193: case 198: case 199:
                return 3;
            default:
                boolean isLoadOrStore = operation >= 21 && operation <= 25 || operation >= 54 && operation <= 58;
                boolean isJumpOrMember = operation >= 153 && operation <= 168 || operation >= 178 && operation <= 184;
                return isLoadOrStore ? 2 : isJumpOrMember ? 3 : 1;
        }
    }
}
