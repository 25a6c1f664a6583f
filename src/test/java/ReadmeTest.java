import java.lang.reflect.Method;
import java.nio.charset.StandardCharsets;
import java.nio.file.Files;
import java.nio.file.Path;
import java.util.regex.Matcher;
import java.util.regex.Pattern;

/** Makes the calls that README.md shows on an object x, and compares with what is written behind them. */
public final class ReadmeTest extends Check {
    private static final Pattern BLOCK = Pattern.compile("```java\n(.*?)```", Pattern.DOTALL);
    private static final Pattern CALL = Pattern.compile("x\\.(\\w+)\\((.*)\\); // (-?\\w+)(: .*)?");

    public static void main(String[] args) throws Exception {
        String readme = Files.readString(Path.of("README.md"), StandardCharsets.UTF_8);
        Matcher block = BLOCK.matcher(readme);
        while (block.find()) followed(block.group(1));
        end("ReadmeTest");
    }

    private static void followed(String block) throws Exception {
        StripFlag x = null;
        for (String line : block.split("\n")) {
            Matcher call = CALL.matcher(line);
            if (line.equals("StripFlag x = new StripFlag();")) {
                x = new StripFlag();
            } else if (call.matches()) {
                due("README: x." + call.group(1) + "(" + call.group(2) + ")", answer(x, call), number(call.group(3)));
            } else if (!line.isEmpty() && !line.startsWith("//")) {
                same("README", line, "a call on x with its answer, or a comment");
            }
        }
    }

    private static int answer(StripFlag x, Matcher call) throws Exception {
        String[] said = call.group(2).isEmpty() ? new String[0] : call.group(2).split(", ");
        for (Method m : StripFlag.class.getMethods()) {
            Class<?>[] types = m.getParameterTypes();
            if (!m.getName().equals(call.group(1)) || types.length != said.length) continue;
            Object[] given = new Object[said.length];
            for (int i = 0; i < said.length; i++) given[i] = argument(types[i], said[i]);
            return (Integer) m.invoke(x, given);
        }
        throw new IllegalStateException("there is no such call: " + call.group());
    }

    private static Object argument(Class<?> type, String said) {
        if (type == boolean.class) return said.equals("true");
        if (type == int.class) return Integer.decode(said);
        return Long.decode(said.replace("L", ""));
    }

    private static int number(String said) throws Exception {
        if (Character.isUpperCase(said.charAt(0))) return StripFlag.class.getField(said).getInt(null);
        return Integer.parseInt(said);
    }
}
