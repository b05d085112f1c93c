import java.io.IOException;
import java.lang.reflect.Field;
import java.lang.reflect.Method;
import java.lang.reflect.Modifier;
import java.nio.file.Files;
import java.nio.file.Path;
import java.util.regex.Matcher;
import java.util.regex.Pattern;

/** README.md tells how the class is used: it names all of the face, and its example answers as it says. */
public final class ReadmeTest extends Checks {
    private static final Path README = Path.of("README.md");
    private static final Pattern BLOCK = Pattern.compile("```java\n(.*?)```", Pattern.DOTALL);
    private static final Pattern TOLD = Pattern.compile("\"([^\"]*)\"\\.toCharArray\\(\\)");
    private static final Pattern ANSWERED = Pattern.compile("x\\.(\\w+)\\(([-0-9, ]*)\\);\\s*// (-?[0-9]+)(.*)");

    public static void main(String[] args) throws IOException, ReflectiveOperationException {
        String page = Files.readString(README);
        namesTheFace(page);
        answersAsItSays(page);
        end("the page tells how the class is used");
    }

    private static void namesTheFace(String page) throws IllegalAccessException {
        bind("the face in " + README);
        for (Method m : HatPins.class.getDeclaredMethods()) {
            if (!Modifier.isPublic(m.getModifiers())) {
                continue;
            }
            Matcher call = Pattern.compile("\\| `" + m.getName() + "\\(([a-z, ]*)\\)` \\|").matcher(page);
            if (!call.find()) {
                wrong("no row tells of " + m.getName());
                continue;
            }
            due("numbers of " + m.getName(), numbers(call.group(1)).length, m.getParameterCount());
        }
        for (Field f : HatPins.class.getDeclaredFields()) {
            if (!Modifier.isPublic(f.getModifiers())) {
                continue;
            }
            if (!page.contains("| `" + f.getName() + "` (" + f.getInt(null) + ") |")) {
                wrong("no row tells of " + f.getName());
            }
        }
    }

    private static String[] numbers(String told) {
        return told.isBlank() ? new String[0] : told.trim().split(" *, *");
    }

    /** Each block of the page is one object, its lines called in their order. */
    private static void answersAsItSays(String page) throws ReflectiveOperationException {
        bind("the example in " + README);
        int answers = 0;
        Matcher block = BLOCK.matcher(page);
        while (block.find()) {
            HatPins x = new HatPins();
            for (String line : block.group(1).split("\n")) {
                Matcher text = TOLD.matcher(line);
                Matcher call = ANSWERED.matcher(line);
                if (text.find()) {
                    written(x, text.group(1));
                } else if (call.find()) {
                    due(line.trim(), answer(x, call.group(1), numbers(call.group(2))), Integer.parseInt(call.group(3)));
                    constantIsNamed(call.group(3), call.group(4));
                    answers++;
                }
            }
        }
        due("the page has an example", answers > 0 ? 1 : 0, 1);
    }

    private static void constantIsNamed(String answer, String words) throws ReflectiveOperationException {
        Matcher name = Pattern.compile("\\b(BAD|NO|FULL|NONE)\\b").matcher(words);
        if (name.find()) {
            due(name.group(), Integer.parseInt(answer), HatPins.class.getField(name.group()).getInt(null));
        }
    }

    private static int answer(HatPins x, String call, String[] numbers) throws ReflectiveOperationException {
        Class<?>[] types = new Class<?>[numbers.length];
        Object[] values = new Object[numbers.length];
        for (int i = 0; i < numbers.length; i++) {
            types[i] = int.class;
            values[i] = Integer.valueOf(numbers[i]);
        }
        return (int) HatPins.class.getMethod(call, types).invoke(x, values);
    }
}
