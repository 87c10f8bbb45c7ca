import java.io.ByteArrayInputStream;
import java.io.DataInputStream;
import java.io.IOException;
import java.io.InputStream;
import java.lang.reflect.Constructor;
import java.lang.reflect.Field;
import java.lang.reflect.Method;
import java.lang.reflect.Modifier;
import java.nio.charset.StandardCharsets;
import java.nio.file.Files;
import java.nio.file.Path;
import java.util.ArrayList;
import java.util.Arrays;
import java.util.List;
import java.util.Set;
import java.util.TreeSet;
import java.util.regex.Matcher;
import java.util.regex.Pattern;

/** What of LANGUAGE.md a program can see: the face, the library, the sizes, the words that are ruled out. */
final class LanguageTest {
    private static final String[] FACE = {
        "int stop(int)", "int footway(int,int,int)", "int trip(int,int,int,int,int,int)", "int calls(int,int,int,int)",
        "boolean runs(int,int,boolean)", "int delay(int,int,int)", "int note(int,int)", "void prices(int,int,int,int)",
        "int arrival(int,int,int,int)", "int arrivalAnew(int,int,int,int)", "int front(int,int,int)",
        "int ride(int,int,int,int,int,int)", "double journey(int,int,int,int,int)", "int best(int,int,int)",
        "int book(int,int,int,int)", "int buy(int)", "int right(int)", "int claim(int)", "int concerned(int,int)",
        "int seats(int,int)", "int pass(int)", "int ofBooking(int,int)"};
    private static final Set<String> LIBRARY = Set.of("java/lang/Object.<init>", "java/lang/Math.min",
        "java/lang/Math.max", "java/util/Arrays.fill", "java/util/ArrayList.<init>", "java/util/ArrayList.add",
        "java/util/ArrayList.get", "java/util/ArrayList.size", "java/lang/IllegalStateException.<init>",
        "java/lang/IllegalArgumentException.<init>", "java/lang/IndexOutOfBoundsException.<init>");
    private static final String[] RULED_OUT = {"->", "::", "\\btry\\b", "\\bcatch\\b", "\\bfinally\\b", "\\bpackage\\b",
        "\\bsynchronized\\b", "\\bassert\\b", "\\bprotected\\b", "\\bstatic\\s*\\{", "\\bvar\\b", "\" *\\+", "\\+ *\""};
    private static final int LONGEST = 60;

    private LanguageTest() {
    }

    public static void main(String[] args) throws IOException {
        face();
        List<Class<?>> classes = new ArrayList<>(List.of(Connectory.class));
        classes.addAll(Arrays.asList(Connectory.class.getDeclaredClasses()));
        Check.due("11: classes " + classes.size(), classes.size() <= 12);
        for (Class<?> each : classes) {
            members(each);
            library(each);
        }
        source(Files.readString(Path.of("src/main/java/Connectory.java"), StandardCharsets.ISO_8859_1));
        Check.end("LanguageTest");
    }

    private static void face() {
        Class<?> face = Connectory.class;
        Check.due("1: final", Modifier.isFinal(face.getModifiers()) && Modifier.isPublic(face.getModifiers()));
        Constructor<?>[] made = face.getDeclaredConstructors();
        Check.due("1: one constructor", made.length == 1 && Modifier.isPublic(made[0].getModifiers())
            && made[0].getParameterCount() == 0);
        Set<String> names = new TreeSet<>();
        for (Method method : face.getDeclaredMethods()) {
            if (Modifier.isPublic(method.getModifiers())) {
                Check.due("1: of objects: " + method, !Modifier.isStatic(method.getModifiers()));
                names.add(described(method));
            } else {
                Check.due("1: private " + method, Modifier.isPrivate(method.getModifiers()));
            }
        }
        Check.due("1: methods", names.toString(), new TreeSet<>(Arrays.asList(FACE)).toString());
        Set<String> constants = new TreeSet<>();
        for (Field field : face.getDeclaredFields()) {
            if (!Modifier.isPrivate(field.getModifiers())) {
                constants.add(Modifier.toString(field.getModifiers()) + " " + field.getType() + " " + field.getName());
            }
        }
        String kind = "public static final int ";
        Check.due("1: constants", constants.toString(), "[" + kind + "BOUGHT, " + kind + "CLAIMED, " + kind
            + "DROPPED, " + kind + "HELD, " + kind + "NONE]");
    }

    private static String described(Method method) {
        List<String> types = new ArrayList<>();
        for (Class<?> type : method.getParameterTypes()) {
            types.add(type.getSimpleName());
        }
        return method.getReturnType().getSimpleName() + " " + method.getName() + "(" + String.join(",", types) + ")";
    }

    private static void members(Class<?> each) {
        int fields = 0;
        for (Field field : each.getDeclaredFields()) {
            fields += Modifier.isStatic(field.getModifiers()) ? 0 : 1;
            Check.due("5: final " + field, !Modifier.isStatic(field.getModifiers())
                || Modifier.isFinal(field.getModifiers()));
            type(field);
        }
        Check.due("11: fields of " + each, fields <= 20);
        Set<String> names = new TreeSet<>();
        for (String method : FACE) {
            names.add(method.substring(method.indexOf(' ') + 1, method.indexOf('(')));
        }
        for (Method method : each.getDeclaredMethods()) {
            Check.due("11: parameters of " + method, method.getParameterCount() <= 7);
            Check.due("1: name of " + method, each == Connectory.class && Modifier.isPublic(method.getModifiers())
                || !names.contains(method.getName()));
        }
        if (each != Connectory.class) {
            Check.due("1: private and static " + each, Modifier.isPrivate(each.getModifiers())
                && Modifier.isStatic(each.getModifiers()) && each.getDeclaredClasses().length == 0);
        }
    }

    private static void type(Field field) {
        String type = field.getType().getName();
        boolean constant = List.of("int", "long", "boolean", "char", "java.lang.String", "[I", "[J", "[C", "[B")
            .contains(type);
        boolean held = type.startsWith("Connectory$") || List.of("double", "[Z", "java.util.ArrayList").contains(type);
        Check.due("3, 5: type of " + field, constant || held && !Modifier.isStatic(field.getModifiers()));
    }

    /** The methods outside the class that its constant pool names. */
    private static void library(Class<?> each) throws IOException {
        byte[] bytes;
        try (InputStream in = each.getResourceAsStream(each.getName() + ".class")) {
            bytes = in.readAllBytes();
        }
        DataInputStream in = new DataInputStream(new ByteArrayInputStream(bytes));
        in.skipBytes(8);
        int count = in.readUnsignedShort();
        String[] texts = new String[count];
        int[] firsts = new int[count];
        int[] seconds = new int[count];
        int[] tags = new int[count];
        for (int i = 1; i < count; i++) {
            tags[i] = in.readUnsignedByte();
            switch (tags[i]) {
                case 1 -> texts[i] = in.readUTF();
                case 3, 4 -> in.readInt();
                case 5, 6 -> {
                    in.readLong();
                    i++;
                }
                case 15 -> in.skipBytes(3);
                case 7, 8, 16, 19, 20 -> firsts[i] = in.readUnsignedShort();
                default -> {
                    firsts[i] = in.readUnsignedShort();
                    seconds[i] = in.readUnsignedShort();
                }
            }
        }
        for (int i = 1; i < count; i++) {
            if (tags[i] == 10 || tags[i] == 11) {
                String owner = texts[firsts[firsts[i]]];
                String name = owner + "." + texts[firsts[seconds[i]]];
                Check.due("4: " + name, owner.startsWith("Connectory") || LIBRARY.contains(name));
            }
            Check.due("2: no dynamic calls", tags[i] != 18);
        }
    }

    /** An element is read or written just where the line, or the one ahead of it, looks at the index. */
    private static void elements(String text) {
        Pattern element = Pattern.compile("(\\w+)\\[(\\w+)\\]");
        String[] lines = text.split("\n");
        int found = 0;
        for (int i = 1; i < lines.length; i++) {
            Matcher each = element.matcher(lines[i]);
            // A length in brackets, as MOST_NOTES is, makes an array.
            while (each.find() && !lines[i].contains("new ")) {
                found++;
                String looked = lines[i - 1] + lines[i];
                String index = each.group(2);
                String most = index + " < " + each.group(1) + ".length";
                Check.due("7: index in line " + (i + 1), looked.contains(most)
                    && (looked.contains(index + " >= 0") || looked.contains("int " + index + " = 0")));
            }
        }
        Check.due("7: elements are found", found >= 4);
    }

    private static void source(String text) {
        for (String word : RULED_OUT) {
            Matcher found = Pattern.compile(word).matcher(text);
            Check.due("ruled out: " + word, !found.find());
        }
        for (int i = 0; i < text.length(); i++) {
            if (text.charAt(i) > 126) {
                Check.due("3: sign at " + i, false);
            }
        }
        elements(text);
        Matcher thrown = Pattern.compile("throw (?!new (IndexOutOfBounds|IllegalArgument|IllegalState)Exception\\(\")")
            .matcher(text);
        Check.due("6: thrown", !thrown.find());
        int begin = 0;
        String[] lines = text.split("\n");
        for (int i = 0; i < lines.length; i++) {
            if (lines[i].matches("( {4}| {8})[^ /].*\\).*\\{")) {
                begin = i;
            }
            if (lines[i].matches("( {4}| {8})\\}")) {
                Check.due("11: lines up to " + i, i - begin <= LONGEST || lines[i].startsWith("    }"));
            }
        }
    }
}
