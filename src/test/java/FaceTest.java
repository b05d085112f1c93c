import java.io.IOException;
import java.lang.reflect.Constructor;
import java.lang.reflect.Field;
import java.lang.reflect.Method;
import java.lang.reflect.Modifier;
import java.nio.file.Files;
import java.nio.file.Path;
import java.util.Arrays;
import java.util.TreeSet;
import java.util.regex.Matcher;
import java.util.regex.Pattern;

/** The face of the class is that of the document, and nothing else of it can be seen. */
public final class FaceTest {
    private static final String[] CALLS = {
        "write 1", "wipe 0", "fault 0", "lay 0", "going 2", "lady 2", "pass 1", "pin 2", "lend 2", "undo 0",
        "behind 2", "dull 0", "quiet 0", "stop 2", "best 1", "both 1", "never 1", "note 2", "forget 0", "waning 1",
        "kinds 1", "late 4", "season 3", "keep 0", "back 0", "count 1"};
    private static final Path DOC = Path.of("../shared/DOC.md"), SOURCE = Path.of("src/main/java/HatPins.java");
    private static final Pattern AHEAD =
        Pattern.compile("Ahead of the calls (`.*`) the interface says: (---- [a-z, ]+)\\.");
    private static int wrong = 0;

    private static void hold(boolean so, String what) {
        if (!so) {
            wrong++;
            System.out.println("not so: " + what);
        }
    }

    /** Of all that the file says ahead of a call, the last ---- is that which the document asks there. */
    private static void sections() throws IOException {
        String source = Files.readString(SOURCE);
        Matcher ahead = AHEAD.matcher(Files.readString(DOC));
        int calls = 0;
        while (ahead.find()) {
            for (String call : ahead.group(1).replace("`", "").split(", ")) {
                int at = source.indexOf("public int " + call + "(");
                int said = source.lastIndexOf("// ----", at);
                hold(at >= 0 && said >= 0 && source.startsWith("// " + ahead.group(2) + "\n", said),
                    "ahead of " + call + ": " + ahead.group(2));
                calls++;
            }
        }
        hold(calls == CALLS.length, "the document tells what is said ahead of each call");
    }

    public static void main(String[] args) throws IOException {
        sections();
        Class<?> face = HatPins.class;
        hold(Modifier.isPublic(face.getModifiers()) && Modifier.isFinal(face.getModifiers()), "public and final");
        TreeSet<String> seen = new TreeSet<>();
        TreeSet<String> names = new TreeSet<>();
        for (String call : CALLS) {
            names.add(call.split(" ")[0]);
        }
        for (Method m : face.getDeclaredMethods()) {
            if (Modifier.isPrivate(m.getModifiers())) {
                hold(!names.contains(m.getName()), "no private method is named " + m.getName());
                continue;
            }
            boolean plain = m.getModifiers() == Modifier.PUBLIC && m.getReturnType() == int.class;
            for (Class<?> type : m.getParameterTypes()) {
                plain = plain && type == int.class;
            }
            hold(plain, "public, of ints: " + m);
            seen.add(m.getName() + " " + m.getParameterCount());
        }
        hold(seen.equals(new TreeSet<>(Arrays.asList(CALLS))), "the calls are " + seen);
        Constructor<?>[] made = face.getDeclaredConstructors();
        hold(made.length == 1 && made[0].getModifiers() == Modifier.PUBLIC && made[0].getParameterCount() == 0,
            "one public constructor");
        TreeSet<String> constants = new TreeSet<>();
        for (Field f : face.getDeclaredFields()) {
            int of = f.getModifiers();
            if (!Modifier.isPrivate(of)) {
                hold(of == (Modifier.PUBLIC | Modifier.STATIC | Modifier.FINAL), "a public constant: " + f);
                constants.add(f.getName());
            }
            hold(!Modifier.isStatic(of) || Modifier.isFinal(of), "static, so final: " + f);
        }
        hold(constants.equals(new TreeSet<>(Arrays.asList("BAD", "NO", "FULL", "NONE"))), "constants " + constants);
        for (Class<?> inside : face.getDeclaredClasses()) {
            int of = inside.getModifiers();
            hold(!Modifier.isPublic(of) && !Modifier.isProtected(of) && Modifier.isStatic(of), "inside: " + inside);
            for (Method m : inside.getDeclaredMethods()) {
                hold(!names.contains(m.getName()), "no method inside is named " + m.getName());
            }
        }
        System.out.println(wrong == 0 ? "the face is as told" : wrong + " are not so");
        if (wrong != 0) {
            System.exit(1);
        }
    }
}
