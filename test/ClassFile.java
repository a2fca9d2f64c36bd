import java.io.DataInputStream;
import java.io.IOException;
import java.io.InputStream;
import java.util.ArrayList;
import java.util.List;

/** What a compiled class says of its methods: whom they call, what they make, whether they throw or catch. */
final class ClassFile {
    /** A method's body, as far as the tests ask for it. */
    static final class Body {
        final String name;
        final List<String> calls = new ArrayList<>();
        final List<String> made = new ArrayList<>();
        boolean throwsAway = false;
        boolean catches = false;
        boolean strange = false;

        Body(String name) {
            this.name = name;
        }
    }

    private static final int UTF8 = 1;
    private static final int LONG = 5;
    private static final int DOUBLE = 6;

    final List<Body> bodies = new ArrayList<>();
    private final DataInputStream in;
    private Object[] texts;
    private int[] first;
    private int[] second;

    private ClassFile(DataInputStream in) {
        this.in = in;
    }

    static ClassFile of(Class<?> type) throws IOException {
        String file = type.getName().substring(type.getName().lastIndexOf('.') + 1) + ".class";
        try (InputStream bytes = type.getResourceAsStream(file)) {
            ClassFile read = new ClassFile(new DataInputStream(bytes));
            read.read();
            return read;
        }
    }

    private void read() throws IOException {
        in.readInt();
        in.readInt();
        readConstants();
        in.readUnsignedShort();
        String own = nameOfClass(in.readUnsignedShort());
        in.readUnsignedShort();
        in.skipNBytes(2L * in.readUnsignedShort());
        for (int n = in.readUnsignedShort(); n > 0; n--) {
            in.skipNBytes(6);
            skipAttributes();
        }
        for (int n = in.readUnsignedShort(); n > 0; n--) {
            readMethod(own);
        }
    }

    private void readConstants() throws IOException {
        int count = in.readUnsignedShort();
        texts = new Object[count];
        first = new int[count];
        second = new int[count];
        for (int i = 1; i < count; i++) {
            int tag = in.readUnsignedByte();
            switch (tag) {
                case UTF8 -> texts[i] = in.readUTF();
                case 3, 4 -> in.readInt();
                case LONG, DOUBLE -> {
                    in.readLong();
                    i++;
                }
                case 7, 8, 16, 19, 20 -> first[i] = in.readUnsignedShort();
                case 15 -> in.skipNBytes(3);
                default -> {
                    first[i] = in.readUnsignedShort();
                    second[i] = in.readUnsignedShort();
                }
            }
        }
    }

    private String nameOfClass(int constant) {
        return (String) texts[first[constant]];
    }

    /** As "Owner.method": the types of its parameters are left out. */
    private String nameOfMember(int constant) {
        return nameOfClass(first[constant]) + "." + texts[first[second[constant]]];
    }

    private void skipAttributes() throws IOException {
        for (int n = in.readUnsignedShort(); n > 0; n--) {
            in.readUnsignedShort();
            in.skipNBytes(in.readInt());
        }
    }

    private void readMethod(String own) throws IOException {
        in.readUnsignedShort();
        Body body = new Body(own + "." + texts[in.readUnsignedShort()]);
        in.readUnsignedShort();
        for (int n = in.readUnsignedShort(); n > 0; n--) {
            boolean isCode = "Code".equals(texts[in.readUnsignedShort()]);
            int length = in.readInt();
            if (!isCode) {
                in.skipNBytes(length);
                continue;
            }
            in.readInt();
            byte[] code = new byte[in.readInt()];
            in.readFully(code);
            walk(code, body);
            int handlers = in.readUnsignedShort();
            body.catches = handlers > 0;
            in.skipNBytes(8L * handlers);
            skipAttributes();
        }
        bodies.add(body);
    }

    private void walk(byte[] code, Body body) {
        for (int at = 0; at < code.length; at += lengthAt(code, at)) {
            int step = code[at] & 255;
            if (step >= 182 && step <= 185) {
                body.calls.add(nameOfMember(shortAt(code, at + 1)));
            } else if (step == 187 || step == 189) {
                body.made.add(nameOfClass(shortAt(code, at + 1)));
            } else if (step == 188 || step == 197) {
                body.made.add("a row of numbers");
            } else if (step == 191) {
                body.throwsAway = true;
            } else if (step == 186 || step == 194 || step == 195) {
                // a lambda, texts joined by +, or a lock
                body.strange = true;
            }
        }
    }

    private static int shortAt(byte[] code, int at) {
        return (code[at] & 255) << 8 | code[at + 1] & 255;
    }

    private static int intAt(byte[] code, int at) {
        return shortAt(code, at) << 16 | shortAt(code, at + 2);
    }

    private static int lengthAt(byte[] code, int at) {
        int step = code[at] & 255;
        int begin = at + 4 - at % 4;
        if (step == 170) {
            return begin - at + 12 + 4 * (intAt(code, begin + 8) - intAt(code, begin + 4) + 1);
        }
        if (step == 171) {
            return begin - at + 8 + 8 * intAt(code, begin + 4);
        }
        if (step == 196) {
            return (code[at + 1] & 255) == 132 ? 6 : 4;
        }
        if (step == 185 || step == 186 || step == 200 || step == 201) {
            return 5;
        }
        if (step == 197) {
            return 4;
        }
        if (step == 16 || step == 18 || step >= 21 && step <= 25 || step >= 54 && step <= 58 || step == 169 || step == 188) {
            return 2;
        }
        boolean three = step == 17 || step == 19 || step == 20 || step == 132 || step >= 153 && step <= 168
            || step >= 178 && step <= 184 || step == 187 || step == 189 || step == 192 || step == 193 || step == 198 || step == 199;
        return three ? 3 : 1;
    }
}
