import java.io.ByteArrayInputStream;
import java.io.DataInputStream;
import java.io.IOException;
import java.io.UncheckedIOException;
import java.lang.reflect.Constructor;
import java.lang.reflect.Field;
import java.lang.reflect.Method;
import java.lang.reflect.Modifier;
import java.nio.file.Files;
import java.nio.file.Path;
import java.util.ArrayList;
import java.util.Arrays;
import java.util.HashSet;
import java.util.List;
import java.util.Set;
import java.util.TreeSet;

/** The document's face, what LANGUAGE.md lets the class use, and that calls make no objects. */
final class FaceTest {
    private static final Due DUE = new Due("FaceTest");

    /** Name, then I for each int, Z for a boolean; behind a colon what it answers. */
    private static final String FACE = "feed(IIIII):I coast(I):I fault():I count(I):I light(II):I ship(II):I where(II):I "
        + "lamp(III):I seen(II):I watch(II):I content(I):I met(II):I fill(II):I moor(II):I push(II):I obey(I):Z want(II):I "
        + "undo():I lamps(I):I signs(II):I who(II):I visits(I):I visit(II):I compared(I):I best():I mooring(III):I "
        + "log(IIIZ):I forget():V falsely():I begun(II):I game(IIIII):I years(III):I father(II):I journey(II):I "
        + "brightest():I sparing(I):I start(II):I alone(I):I quarrels(I):I image():V restore():Z";

    /** The library that the class may call: rule 4, and the exceptions of rule 6. */
    private static final Set<String> LIBRARY = new HashSet<>(Arrays.asList(
        "java/lang/Object.<init>", "java/lang/String.length", "java/lang/String.charAt", "java/lang/String.indexOf",
        "java/lang/Math.max", "java/lang/Math.min", "java/lang/Math.abs", "java/lang/Integer.bitCount",
        "java/lang/System.arraycopy", "java/util/NoSuchElementException.<init>",
        "java/lang/IllegalArgumentException.<init>"));

    public static void main(String[] args) throws IOException {
        face();
        library();
        nestedClasses();
        source();
        room();
        DUE.end();
    }

    private static String letter(Class<?> type) {
        return type == int.class ? "I" : type == boolean.class ? "Z" : type == void.class ? "V" : type.getName();
    }

    private static void face() {
        Set<String> due = new TreeSet<>(Arrays.asList(FACE.split(" ")));
        Set<String> found = new TreeSet<>();
        Set<String> publicNames = new HashSet<>();
        Set<String> privateNames = new HashSet<>();
        for (Method m : SailingLights.class.getDeclaredMethods()) {
            if (Modifier.isPrivate(m.getModifiers())) {
                privateNames.add(m.getName());
                continue;
            }
            StringBuilder s = new StringBuilder(m.getName()).append('(');
            for (Class<?> p : m.getParameterTypes()) {
                s.append(letter(p));
            }
            found.add(s.append("):").append(letter(m.getReturnType())).toString());
            publicNames.add(m.getName());
            DUE.is(m.getName() + " is public", Modifier.isPublic(m.getModifiers()), true);
        }
        DUE.is("the face " + found, found.equals(due), true);
        privateNames.retainAll(publicNames);
        DUE.is("private methods with a public name " + privateNames, privateNames.size(), 0);
        for (Field f : SailingLights.class.getDeclaredFields()) {
            boolean shown = f.getName().equals("NONE");
            DUE.is(f.getName() + " is private", Modifier.isPrivate(f.getModifiers()), !shown);
            DUE.is(f.getName() + ": static is final", Modifier.isStatic(f.getModifiers()) && !Modifier.isFinal(f.getModifiers()),
                false);
        }
        Constructor<?>[] made = SailingLights.class.getDeclaredConstructors();
        DUE.is("constructors", made.length, 1);
        DUE.is("it is public", Modifier.isPublic(made[0].getModifiers()), true);
        DUE.is("the class is final", Modifier.isFinal(SailingLights.class.getModifiers()), true);
    }

    private static void nestedClasses() {
        Class<?>[] inside = SailingLights.class.getDeclaredClasses();
        DUE.is("some twelve classes", inside.length <= 12, true);
        for (Class<?> c : inside) {
            int modifiers = c.getModifiers();
            DUE.is(c + " is static and not public",
                Modifier.isStatic(modifiers) && !Modifier.isPublic(modifiers) && !Modifier.isProtected(modifiers), true);
            for (Method m : c.getDeclaredMethods()) {
                DUE.is(m + " has at most seven parameters", m.getParameterCount() <= 7, true);
                DUE.is(m + " has no name of the face", (" " + FACE).contains(" " + m.getName() + "("), false);
            }
        }
    }

    private static void library() throws IOException {
        Path folder = Path.of(SailingLights.class.getProtectionDomain().getCodeSource().getLocation().getPath());
        List<Path> files = new ArrayList<>();
        try (var all = Files.list(folder)) {
            all.filter(p -> p.getFileName().toString().matches("SailingLights(\\$.*)?\\.class")).forEach(files::add);
        } catch (IOException e) {
            throw new UncheckedIOException(e);
        }
        DUE.is("class files were found", files.size() > 1, true);
        for (Path file : files) {
            for (String used : calls(Files.readAllBytes(file))) {
                DUE.is(file.getFileName() + " calls " + used, used.startsWith("SailingLights") || LIBRARY.contains(used), true);
            }
        }
    }

    /** The methods that a class file names, and "dynamic" for a call that is bound at run time. */
    private static List<String> calls(byte[] bytes) throws IOException {
        DataInputStream in = new DataInputStream(new ByteArrayInputStream(bytes));
        in.readLong();
        int many = in.readUnsignedShort();
        String[] texts = new String[many];
        int[][] pairs = new int[many][];
        int[] tags = new int[many];
        for (int i = 1; i < many; i++) {
            tags[i] = in.readUnsignedByte();
            switch (tags[i]) {
                case 1: texts[i] = in.readUTF(); break;
                case 3: case 4: in.readInt(); break;
                case 5: case 6: in.readLong(); i++; break;
                case 7: case 8: case 16: case 19: case 20: pairs[i] = new int[] {in.readUnsignedShort()}; break;
                case 15: in.readUnsignedByte(); in.readUnsignedShort(); break;
                default: pairs[i] = new int[] {in.readUnsignedShort(), in.readUnsignedShort()}; break;
            }
        }
        List<String> found = new ArrayList<>();
        for (int i = 1; i < many; i++) {
            if (tags[i] == 10 || tags[i] == 11) {
                found.add(texts[pairs[pairs[i][0]][0]] + "." + texts[pairs[pairs[i][1]][0]]);
            } else if (tags[i] == 15 || tags[i] == 17 || tags[i] == 18) {
                found.add("dynamic");
            }
        }
        return found;
    }

    private static void source() throws IOException {
        String text = Files.readString(Path.of("src/main/java/SailingLights.java"));
        for (String word : new String[] {"finally", "synchronized", "assert ", "->", "::", "catch", "static {", "try {",
            "protected", "instanceof", "import java.util.*"}) {
            DUE.is("the source has '" + word + "'", text.contains(word), false);
        }
    }

    /** All rows are made by the constructor: a call makes none, so that a long run stays within its room. */
    private static void room() {
        SailingLights x = DUE.of("sea 12 12;cape 1 1;light 0 0 5 99 3 es lk;light 9 9 9 50 7 nw k;light 3 3 9 9 1 nesw l;"
            + "ship 2 0 3;ship 5 1 12;ship 9 2 1;fog 0 2;yields oil+lit;yields 0-rank;");
        x.log(0, 12, 0, true);
        askAll(x, 30);
        com.sun.management.ThreadMXBean threads =
            (com.sun.management.ThreadMXBean) java.lang.management.ManagementFactory.getThreadMXBean();
        long own = Thread.currentThread().getId();
        long before = threads.getThreadAllocatedBytes(own);
        askAll(x, 30);
        long used = threads.getThreadAllocatedBytes(own) - before;
        DUE.is("bytes that 30 rounds of all calls made: " + used, used < 20000, true);
        before = threads.getThreadAllocatedBytes(own);
        new SailingLights();
        used = threads.getThreadAllocatedBytes(own) - before;
        DUE.is("bytes of one object: " + used, used < 120000, true);
    }

    private static void askAll(SailingLights x, int rounds) {
        for (int i = 0; i < rounds; i++) {
            x.feed(0x63617065, 0x20302030, 0x3b202020, 0x20202020, 0x20202020);
            x.fill(0, i);
            x.moor(0, i);
            x.push(0, i);
            x.obey(i % 3 - 1);
            x.want(0, 4);
            x.image();
            x.undo();
            x.restore();
            x.ship(0, 3);
            x.where(0, 9);
            x.lamp(0, 9, 0);
            x.seen(0, 12);
            x.watch(0, 1);
            x.content(0);
            x.met(0, 1);
            x.lamps(0);
            x.signs(0, 0);
            x.who(1, 3);
            x.visits(12);
            x.visit(0, 12);
            x.best();
            x.mooring(0, 0, 0);
            x.falsely();
            x.begun(0, 0);
            x.game(0, 1, 0, 4, 0);
            x.years(5, 9, 0);
            x.father(0, 12);
            x.journey(0, 2);
            x.brightest();
            x.sparing(1);
            x.start(0, 0);
            x.alone(0);
            x.quarrels(-1);
        }
    }
}
