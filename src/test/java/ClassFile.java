import java.io.DataInputStream;
import java.io.IOException;
import java.util.ArrayList;
import java.util.List;

/** What a class file tells of its methods: whom each one calls, what it makes, whether it throws or catches. */
final class ClassFile {
    /** A method as its owner's and its own name; methods of one name are taken as one. */
    record Name(String owner, String name) { }

    static final class Body {
        final Name name;
        final List<Name> calls = new ArrayList<>();
        int made;
        int thrown;
        int caught;
        int lambdas;

        Body(Name name) {
            this.name = name;
        }
    }

    private static final int TABLE_SWITCH = 0xaa;
    private static final int LOOKUP_SWITCH = 0xab;
    private static final int INVOKE_DYNAMIC = 0xba;
    private static final int THROW = 0xbf;
    private static final int WIDE = 0xc4;
    private static final int INCREMENT = 0x84;

    final List<Body> bodies = new ArrayList<>();
    private final DataInputStream in;
    private final Object[] texts;
    private final int[][] pairs;

    ClassFile(Class<?> c) throws IOException {
        in = new DataInputStream(c.getResourceAsStream(c.getName() + ".class"));
        in.skipNBytes(8);
        int pool = in.readUnsignedShort();
        texts = new Object[pool];
        pairs = new int[pool][2];
        for (int i = 1; i < pool; i++) {
            i += readConstant(i);
        }
        in.skipNBytes(6);
        in.skipNBytes(2L * in.readUnsignedShort());
        for (int i = in.readUnsignedShort(); i > 0; i--) {
            in.skipNBytes(6);
            skipAttributes();
        }
        for (int i = in.readUnsignedShort(); i > 0; i--) {
            in.skipNBytes(2);
            readMethod(c.getName());
        }
        in.close();
    }

    /** How many more places it takes. */
    private int readConstant(int at) throws IOException {
        int tag = in.readUnsignedByte();
        switch (tag) {
            case 1 -> texts[at] = in.readUTF();
            case 5, 6 -> in.skipNBytes(8);
            case 7, 8, 16, 19, 20 -> pairs[at][0] = in.readUnsignedShort();
            case 15 -> in.skipNBytes(3);
            default -> {
                pairs[at][0] = in.readUnsignedShort();
                pairs[at][1] = in.readUnsignedShort();
            }
        }
        return tag == 5 || tag == 6 ? 1 : 0;
    }

    private void skipAttributes() throws IOException {
        for (int i = in.readUnsignedShort(); i > 0; i--) {
            in.skipNBytes(2);
            in.skipNBytes(in.readInt());
        }
    }

    private void readMethod(String owner) throws IOException {
        Body body = new Body(new Name(owner, (String) texts[in.readUnsignedShort()]));
        in.skipNBytes(2);
        for (int i = in.readUnsignedShort(); i > 0; i--) {
            boolean isCode = "Code".equals(texts[in.readUnsignedShort()]);
            int length = in.readInt();
            if (!isCode) {
                in.skipNBytes(length);
                continue;
            }
            in.skipNBytes(4);
            readCode(body, in.readNBytes(in.readInt()));
            body.caught = in.readUnsignedShort();
            in.skipNBytes(8L * body.caught);
            skipAttributes();
        }
        bodies.add(body);
    }

    private void readCode(Body body, byte[] code) {
        for (int at = 0; at < code.length; at += lengthAt(code, at)) {
            int op = code[at] & 255;
            if (op >= 0xb6 && op <= 0xb9) {
                int[] ref = pairs[(code[at + 1] & 255) << 8 | code[at + 2] & 255];
                String owner = (String) texts[pairs[ref[0]][0]];
                body.calls.add(new Name(owner.replace('/', '.'), (String) texts[pairs[ref[1]][0]]));
            }
            body.made += op >= 0xbb && op <= 0xbd || op == 0xc5 ? 1 : 0;
            body.thrown += op == THROW ? 1 : 0;
            body.lambdas += op == INVOKE_DYNAMIC ? 1 : 0;
        }
    }

    private static int lengthAt(byte[] code, int at) {
        int op = code[at] & 255;
        int table = (at | 3) + 1;
        switch (op) {
            case TABLE_SWITCH:
                return table + 12 + 4 * (intAt(code, table + 8) - intAt(code, table + 4) + 1) - at;
            case LOOKUP_SWITCH:
                return table + 8 + 8 * intAt(code, table + 4) - at;
            case WIDE:
                return (code[at + 1] & 255) == INCREMENT ? 6 : 4;
            default:
                return plainLength(op);
        }
    }

    private static int plainLength(int op) {
        if (op == 0xb9 || op == 0xba || op == 0xc8 || op == 0xc9) {
            return 5;
        }
        if (op == 0xc5) {
            return 4;
        }
        boolean three = op == 0x11 || op == 0x13 || op == 0x14 || op == INCREMENT || op >= 0x99 && op <= 0xa8
            || op >= 0xb2 && op <= 0xb8 || op == 0xbb || op == 0xbd || op == 0xc0 || op == 0xc1 || op == 0xc6 || op == 0xc7;
        boolean two = op == 0x10 || op == 0x12 || op >= 0x15 && op <= 0x19 || op >= 0x36 && op <= 0x3a || op == 0xa9
            || op == 0xbc;
        return three ? 3 : two ? 2 : 1;
    }

    private static int intAt(byte[] code, int at) {
        return (code[at] & 255) << 24 | (code[at + 1] & 255) << 16 | (code[at + 2] & 255) << 8 | code[at + 3] & 255;
    }
}
