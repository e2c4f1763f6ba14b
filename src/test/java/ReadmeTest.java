import java.io.IOException;
import java.lang.reflect.Method;
import java.lang.reflect.Modifier;
import java.nio.file.Files;
import java.nio.file.Path;
import java.util.regex.Matcher;
import java.util.regex.Pattern;

/** Runs the example of README.md, and looks whether each call of the face stands on that page. */
public final class ReadmeTest {
    private static final Pattern EXAMPLE = Pattern.compile("```java\n(.*?)```", Pattern.DOTALL);
    private static final String MAKING = "BundleAuction house = new BundleAuction();";
    private static final Pattern TYPING =
        Pattern.compile("for \\(char c : \"(.*)\"\\.toCharArray\\(\\)\\) house\\.type\\(c\\);");
    private static final Pattern CALL = Pattern.compile("house\\.(\\w+)\\(([-0-9, ]*)\\); +// (\\w+)(: .*)?");

    private static int wrong = 0;

    private static void tell(String what) {
        wrong++;
        System.out.println(what);
    }

    private static Method method(String name) {
        for (Method m : BundleAuction.class.getDeclaredMethods()) {
            if (Modifier.isPublic(m.getModifiers()) && m.getName().equals(name)) return m;
        }
        throw new IllegalArgumentException("no call " + name);
    }

    private static String answer(BundleAuction house, String name, String arguments)
        throws ReflectiveOperationException {
        String[] texts = arguments.isEmpty() ? new String[0] : arguments.split(", ");
        Object[] numbers = new Object[texts.length];
        for (int i = 0; i < texts.length; i++) numbers[i] = Integer.valueOf(texts[i]);
        return String.valueOf(method(name).invoke(house, numbers));
    }

    private static String due(String told) throws ReflectiveOperationException {
        boolean constant = told.equals("NONE") || told.equals("REFUSED") || told.equals("OVER");
        return constant ? String.valueOf(BundleAuction.class.getField(told).get(null)) : told;
    }

    private static void runLine(BundleAuction house, String line) throws ReflectiveOperationException {
        Matcher typing = TYPING.matcher(line);
        Matcher call = CALL.matcher(line);
        if (typing.matches()) {
            for (char c : typing.group(1).toCharArray()) if (!house.type(c)) tell(line + " is refused");
        } else if (call.matches()) {
            String got = answer(house, call.group(1), call.group(2));
            if (!got.equals(due(call.group(3)))) tell(line + " but it answers " + got);
        } else {
            tell("not understood: " + line);
        }
    }

    public static void main(String[] args) throws IOException, ReflectiveOperationException {
        String page = Files.readString(Path.of("README.md"));
        Matcher example = EXAMPLE.matcher(page);
        if (!example.find() || !example.group(1).startsWith(MAKING + "\n")) {
            tell("README.md has no example");
        } else {
            BundleAuction house = new BundleAuction();
            for (String line : example.group(1).substring(MAKING.length()).split("\n")) {
                if (!line.isEmpty()) runLine(house, line);
            }
        }
        for (Method m : BundleAuction.class.getDeclaredMethods()) {
            boolean open = Modifier.isPublic(m.getModifiers());
            if (open && !page.contains("`" + m.getName() + "(")) tell("README.md does not tell of " + m.getName());
        }
        System.out.println(wrong == 0 ? "the example answers as told" : wrong + " things are wrong");
        if (wrong != 0) System.exit(1);
    }
}
