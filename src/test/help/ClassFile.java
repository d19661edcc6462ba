import java.io.ByteArrayInputStream;
import java.io.DataInputStream;
import java.io.IOException;
import java.io.InputStream;
import java.util.ArrayList;
import java.util.Collections;
import java.util.LinkedHashMap;
import java.util.List;
import java.util.Map;
import java.util.Set;
import java.util.TreeSet;

/** What javac made of a class: what its methods call and make, and where they throw or catch. */
final class ClassFile {
    /** What one method does; calls are told as owner.name and descriptor. */
    static final class Body {
        final Set<String> calls = new TreeSet<>();
        boolean makes = false;
        boolean throwsOrCatches = false;
    }

    final String name;
    final Map<String, Body> bodies = new LinkedHashMap<>();
    boolean hasLambdas = false;

    private final Object[] pool;

    ClassFile(Class<?> type) throws IOException {
        String path = type.getName() + ".class";
        try (InputStream stream = type.getClassLoader().getResourceAsStream(path);
                DataInputStream in = new DataInputStream(stream)) {
            in.readInt();
            in.readInt();
            pool = readPool(in);
            in.readUnsignedShort();
            name = className(in.readUnsignedShort());
            in.readUnsignedShort();
            in.skipBytes(2 * in.readUnsignedShort());
            readMembers(in);
            readMembers(in);
        }
    }

    // ---- the constants

    private Object[] readPool(DataInputStream in) throws IOException {
        Object[] constants = new Object[in.readUnsignedShort()];
        for (int i = 1; i < constants.length; i++) {
            int tag = in.readUnsignedByte();
            switch (tag) {
                case 1 -> constants[i] = in.readUTF();
                case 3, 4 -> in.readInt();
                case 5, 6 -> {
                    in.readLong();
                    i++;
                }
                case 7, 8, 16, 19, 20 -> constants[i] = new int[] {in.readUnsignedShort()};
                case 9, 10, 11, 12, 17, 18 -> constants[i] = new int[] {in.readUnsignedShort(), in.readUnsignedShort()};
                case 15 -> in.skipBytes(3);
                default -> throw new IOException("a constant of kind " + tag);
            }
            hasLambdas |= tag == 18;
        }
        return constants;
    }

    private int part(int index, int which) {
        return ((int[]) pool[index])[which];
    }

    private String className(int index) {
        return (String) pool[part(index, 0)];
    }

    private String memberName(int index) {
        int nameAndType = part(index, 1);
        return className(part(index, 0)) + "." + pool[part(nameAndType, 0)] + pool[part(nameAndType, 1)];
    }

    // ---- fields and methods

    private void readMembers(DataInputStream in) throws IOException {
        int count = in.readUnsignedShort();
        for (int i = 0; i < count; i++) {
            in.readUnsignedShort();
            String member = name + "." + pool[in.readUnsignedShort()] + pool[in.readUnsignedShort()];
            int attributes = in.readUnsignedShort();
            for (int a = 0; a < attributes; a++) {
                Object kind = pool[in.readUnsignedShort()];
                byte[] bytes = in.readNBytes(in.readInt());
                if ("Code".equals(kind)) {
                    bodies.put(member, readCode(new DataInputStream(new ByteArrayInputStream(bytes))));
                }
            }
        }
    }

    private Body readCode(DataInputStream in) throws IOException {
        Body body = new Body();
        in.readInt();
        byte[] code = in.readNBytes(in.readInt());
        body.throwsOrCatches = in.readUnsignedShort() > 0;
        for (int at = 0; at < code.length; at += lengthAt(code, at)) {
            int op = code[at] & 255;
            if (op >= 0xb6 && op <= 0xb9) {
                body.calls.add(memberName((code[at + 1] & 255) << 8 | code[at + 2] & 255));
            }
            body.makes |= op >= 0xba && op <= 0xbd || op == 0xc5;
            body.throwsOrCatches |= op == 0xbf;
        }
        return body;
    }

    private static int lengthAt(byte[] code, int at) throws IOException {
        int op = code[at] & 255;
        if (op == 0xaa || op == 0xab) {
            int table = (at / 4 + 1) * 4;
            int rows = op == 0xab ? 2 * wordAt(code, table + 4) + 2
                    : wordAt(code, table + 8) - wordAt(code, table + 4) + 4;
            return table + 4 * rows - at;
        }
        if (op == 0xc4) {
            return (code[at + 1] & 255) == 0x84 ? 6 : 4;
        }
        if (op == 0xb9 || op == 0xba || op == 0xc8 || op == 0xc9) {
            return 5;
        }
        if (op == 0xc5) {
            return 4;
        }
        boolean three = op == 0x11 || op == 0x13 || op == 0x14 || op == 0x84 || op >= 0x99 && op <= 0xa8
                || op >= 0xb2 && op <= 0xb8 || op == 0xbb || op == 0xbd || op == 0xc0 || op == 0xc1 || op == 0xc6
                || op == 0xc7;
        boolean two = op == 0x10 || op == 0x12 || op >= 0x15 && op <= 0x19 || op >= 0x36 && op <= 0x3a || op == 0xa9
                || op == 0xbc;
        return three ? 3 : two ? 2 : 1;
    }

    private static int wordAt(byte[] code, int at) {
        return (code[at] & 255) << 24 | (code[at + 1] & 255) << 16 | (code[at + 2] & 255) << 8 | code[at + 3] & 255;
    }

    // ---- several classes together

    /** The bodies of a class and of those inside it. */
    static Map<String, Body> allBodies(List<ClassFile> files) {
        Map<String, Body> all = new LinkedHashMap<>();
        for (ClassFile file : files) {
            all.putAll(file.bodies);
        }
        return all;
    }

    /** The longest chain of calls from this method on among these bodies; one that never ends is told as a hundred. */
    static List<String> longestChain(Map<String, Body> all, String method, List<String> above) {
        if (above.contains(method)) {
            return Collections.nCopies(100, method);
        }
        List<String> here = new ArrayList<>(above);
        here.add(method);
        List<String> longest = here;
        for (String call : all.get(method).calls) {
            if (all.containsKey(call)) {
                List<String> chain = longestChain(all, call, here);
                longest = chain.size() > longest.size() ? chain : longest;
            }
        }
        return longest;
    }
}
