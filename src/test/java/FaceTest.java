import java.io.DataInputStream;
import java.io.IOException;
import java.io.InputStream;
import java.lang.reflect.Constructor;
import java.lang.reflect.Field;
import java.lang.reflect.Method;
import java.lang.reflect.Modifier;
import java.nio.file.Files;
import java.nio.file.Path;
import java.util.ArrayList;
import java.util.Arrays;
import java.util.HashSet;
import java.util.List;
import java.util.Set;
import java.util.TreeSet;

/** The face is the document's and no more, and the class keeps to the bounds of LANGUAGE.md that can be looked up. */
public final class FaceTest {
    private static final String[] CALLS = {
        "int box(int,int,int,int,int,int,int) IllegalArgumentException,IllegalStateException",
        "boolean before(int,int)",
        "int plan(int) IllegalArgumentException",
        "int move(int,int,int) IndexOutOfBoundsException",
        "int work(int) IllegalArgumentException,IllegalStateException",
        "int least(int) IllegalArgumentException",
        "int swap(int,int) IllegalArgumentException",
        "int aboard(int,int) IndexOutOfBoundsException",
        "boolean ground(int,int)",
        "boolean reserve(int,int)",
        "int put(int,int) IndexOutOfBoundsException",
        "int take(int) IndexOutOfBoundsException",
        "int shift(int,int) IndexOutOfBoundsException",
        "int choose(int) IndexOutOfBoundsException",
        "int night(int) IllegalArgumentException",
        "int undo()",
        "int where(int,int) IndexOutOfBoundsException",
        "int at(int,int) IndexOutOfBoundsException",
        "int goods(int,int) IllegalArgumentException,IllegalStateException",
        "int bar(int,int,int,int) IllegalArgumentException",
        "int lift(int,int,int,int) IllegalArgumentException",
        "int join(int,int) IllegalArgumentException",
        "boolean rule(int,int,int)",
        "int release(int) IllegalArgumentException",
        "int bars(int,int) IllegalArgumentException",
        "int part(int,int) IllegalArgumentException",
        "int withdraw(int) IllegalArgumentException",
        "int gate(int) IllegalArgumentException",
        "boolean away(int,int,boolean)",
        "int notice(int)",
        "int look(int,int) IndexOutOfBoundsException",
        "boolean member(int,int)",
        "int row(int,int,int,int,int,int,int) IllegalArgumentException,IllegalStateException",
        "boolean exclude(int,int)",
        "boolean condition(int,int)",
        "int end(int,int,int) IndexOutOfBoundsException,IllegalArgumentException,IllegalStateException",
        "void papers(int)",
        "int apply(int,int,int,int) IllegalArgumentException",
        "int listed(int)",
        "boolean type(long,int)",
        "int rate(int) IllegalArgumentException",
        "int node(int,int,int) IndexOutOfBoundsException",
        "int print(int) IllegalArgumentException",
        "int printed(int) IndexOutOfBoundsException",
        "long worth(int,long,int,long) IllegalArgumentException,UnsupportedOperationException",
        "int order(long,int,int) IllegalArgumentException,IllegalStateException",
        "int run(int,int) IndexOutOfBoundsException,IllegalArgumentException",
        "boolean block(int,int,boolean) IndexOutOfBoundsException",
        "boolean transfer(int,int,long) IndexOutOfBoundsException",
        "long balance(int,int) IndexOutOfBoundsException,IllegalArgumentException",
        "long quota(int,int) IndexOutOfBoundsException",
        "int guarantee(int,long,int,int,boolean,int) IllegalArgumentException,IllegalStateException",
        "boolean first(int)",
        "boolean shut(int)",
        "boolean fails(int,boolean)",
        "boolean tick(int)",
        "long interest(int) IllegalArgumentException",
        "long free(int)",
        "int list(int,int)",
        "long security(int,int) IndexOutOfBoundsException",
        "long reservation(int,int) IndexOutOfBoundsException",
        "int batch(int,int) IllegalArgumentException,IllegalStateException",
        "boolean entry(int,int,long)",
        "boolean failing(int,boolean)",
        "int post(int) IllegalArgumentException,IllegalStateException,UnsupportedOperationException",
        "int reverse(int,int) IllegalArgumentException,IllegalStateException",
        "boolean close(int)",
        "long account(int,int,int) IllegalArgumentException",
        "long statement(int,int,int) IllegalArgumentException",
        "boolean share(int,int,int)",
        "boolean cost(int,int)",
        "long passed(int,int,int) IllegalArgumentException",
        "long read(int,int) IndexOutOfBoundsException",
        "int batchOf(int,int) IndexOutOfBoundsException",
        "int declare(int,int,int,int,int,int,long) IllegalArgumentException,IllegalStateException",
        "boolean amount(int,int,long)",
        "int ask(int,int,long) IllegalArgumentException,IndexOutOfBoundsException,IllegalStateException",
        "int again(int,long) IllegalArgumentException",
        "long duty(int,int) IllegalArgumentException,UnsupportedOperationException",
        "long assess(int,int) IllegalArgumentException,UnsupportedOperationException",
        "int pay(int,int) IllegalArgumentException,IllegalStateException",
        "long claim(int,int) IllegalArgumentException,IllegalStateException",
        "long correct(int,int) IllegalArgumentException,UnsupportedOperationException,IllegalStateException",
        "int cancel(int) IllegalArgumentException",
        "long declared(int,int) IndexOutOfBoundsException",
        "int count(int)"
    };

    private static final String[] LIBRARY = {
        "java/lang/Object\\.<init>\\(\\)V",
        "java/lang/(IllegalState|IllegalArgument|IndexOutOfBounds|UnsupportedOperation)Exception"
            + "\\.<init>\\((Ljava/lang/String;)?\\)V",
        "java/lang/String\\.(length|charAt|isEmpty)\\(.*",
        "java/lang/(Math|Integer|Long)\\.(max|min|abs|compare|bitCount|floorDiv|floorMod)\\([IJ]+\\)[IJ]",
        "java/lang/System\\.arraycopy\\(.*",
        "java/util/Arrays\\.(copyOf|copyOfRange|fill)\\(\\[[IJ].*"
    };

    public static void main(String[] args) throws IOException {
        face();
        constants();
        classesInside();
        library();
        if (args.length > 0) {
            source(Files.readString(Path.of(args[0])));
        }
        Check.end();
    }

    private static String told(Class<?>[] types) {
        List<String> names = new ArrayList<>();
        for (Class<?> t : types) {
            names.add(t.getSimpleName());
        }
        return String.join(",", names);
    }

    private static void face() {
        Check.topic("the face");
        Set<String> found = new TreeSet<>();
        Set<String> names = new HashSet<>();
        for (Method m : PortHouse.class.getDeclaredMethods()) {
            if (Modifier.isPublic(m.getModifiers())) {
                String thrown = told(m.getExceptionTypes());
                String takes = "(" + told(m.getParameterTypes()) + ") ";
                found.add((m.getReturnType().getSimpleName() + " " + m.getName() + takes + thrown).trim());
                names.add(m.getName());
            }
        }
        Check.due(String.join("\n", new TreeSet<>(Arrays.asList(CALLS))), String.join("\n", found));
        for (Method m : PortHouse.class.getDeclaredMethods()) {
            if (!Modifier.isPublic(m.getModifiers())) {
                Check.due(true, Modifier.isPrivate(m.getModifiers()));
                Check.due(false, names.contains(m.getName()));
            }
        }
        Constructor<?>[] made = PortHouse.class.getDeclaredConstructors();
        Check.due(1, made.length);
        Check.due("int,int,int,int,int", told(made[0].getParameterTypes()));
        Check.due(Modifier.PUBLIC | Modifier.FINAL, PortHouse.class.getModifiers());
    }

    private static void constants() {
        Check.topic("the constants");
        Set<String> open = new TreeSet<>();
        for (Field f : PortHouse.class.getDeclaredFields()) {
            if (!Modifier.isPrivate(f.getModifiers())) {
                open.add(Modifier.toString(f.getModifiers()) + " " + f.getType() + " " + f.getName());
            }
        }
        Check.due("[public static final int ALL, public static final int NONE, public static final int OPEN]",
                open.toString());
    }

    private static void classesInside() {
        Check.topic("the classes inside");
        Class<?>[] inside = PortHouse.class.getDeclaredClasses();
        Check.due(true, inside.length <= 11);
        for (Class<?> c : inside) {
            Check.due(true, Modifier.isPrivate(c.getModifiers()) && Modifier.isStatic(c.getModifiers()));
            int fields = 0;
            for (Field f : c.getDeclaredFields()) {
                boolean fixed = Modifier.isStatic(f.getModifiers());
                fields += fixed ? 0 : 1;
                Check.due(true, !fixed || Modifier.isFinal(f.getModifiers()));
            }
            Check.due(true, fields <= 20);
            for (Method m : c.getDeclaredMethods()) {
                Check.due(true, m.getParameterCount() <= 7);
                Check.due("", isOfTheFace(m.getName()) ? m.getName() : "");
            }
        }
    }

    private static boolean isOfTheFace(String name) {
        for (String call : CALLS) {
            if (call.startsWith(name + "(", call.indexOf(' ') + 1)) {
                return true;
            }
        }
        return false;
    }

    // What the compiled classes call outside of themselves, with the types.
    private static void library() throws IOException {
        Check.topic("LANGUAGE.md, rule 4: the library");
        Set<String> called = new TreeSet<>(outsideCalls(PortHouse.class));
        for (Class<?> c : PortHouse.class.getDeclaredClasses()) {
            called.addAll(outsideCalls(c));
        }
        Check.due(true, called.contains("java/lang/Object.<init>()V"));
        for (String one : called) {
            boolean listed = false;
            for (String allowed : LIBRARY) {
                listed |= one.matches(allowed);
            }
            Check.due(one, listed ? one : "not in the library that is listed");
        }
    }

    private static Set<String> outsideCalls(Class<?> c) throws IOException {
        try (InputStream in = c.getResourceAsStream("/" + c.getName() + ".class")) {
            return outsideCalls(new DataInputStream(in));
        }
    }

    private static Set<String> outsideCalls(DataInputStream in) throws IOException {
        in.skipNBytes(8);
        int size = in.readUnsignedShort();
        String[] texts = new String[size];
        int[] kinds = new int[size];
        int[] pairs = new int[size];
        for (int i = 1; i < size; i++) {
            kinds[i] = in.readUnsignedByte();
            switch (kinds[i]) {
                case 1 -> texts[i] = in.readUTF();
                case 7, 8, 16, 19, 20 -> pairs[i] = in.readUnsignedShort();
                case 15 -> in.skipNBytes(3);
                case 5, 6 -> {
                    in.skipNBytes(8);
                    i++;
                }
                default -> pairs[i] = in.readInt();
            }
        }
        Set<String> found = new TreeSet<>();
        for (int i = 1; i < size; i++) {
            if (kinds[i] >= 9 && kinds[i] <= 11) {
                String owner = texts[pairs[pairs[i] >>> 16]];
                int named = pairs[pairs[i] & 0xFFFF];
                if (!owner.startsWith("PortHouse")) {
                    found.add(owner + "." + texts[named >>> 16] + texts[named & 0xFFFF]);
                }
            }
        }
        return found;
    }

    private static void source(String text) {
        String[] refused = {"->", "::", "finally", "synchronized", "assert ", "Exact(", "catch", "Random", "System.out",
            "instanceof", "static {", "package ", "String.", "while (true", "for (;;", "import static"};
        for (String word : refused) {
            Check.topic("LANGUAGE.md, no \"" + word + "\"");
            Check.due(false, text.contains(word));
        }
        Check.topic("LANGUAGE.md, one import");
        Check.due(text.indexOf("import "), text.lastIndexOf("import "));
        methodsAreShort(text.split("\n"));
    }

    private static void methodsAreShort(String[] lines) {
        Check.topic("LANGUAGE.md, methods of some sixty lines");
        int start = 0;
        for (int i = 0; i < lines.length; i++) {
            String line = lines[i];
            boolean begins = line.matches("(    |        )[a-z].*[(].*[{]");
            start = begins ? i : start;
            boolean ends = line.equals("    }") || line.equals("        }");
            Check.due(true, !ends || i - start <= 60 || !lines[start].contains("("));
            start = ends ? i : start;
        }
    }
}
