import java.lang.reflect.Constructor;
import java.lang.reflect.Field;
import java.lang.reflect.Method;
import java.lang.reflect.Modifier;
import java.nio.file.Files;
import java.nio.file.Path;
import java.util.TreeSet;
import java.util.regex.Matcher;
import java.util.regex.Pattern;

/** LANGUAGE.md, as far as words and shapes of the source tell: it is looked at without its comments. */
public final class LanguageTest {
    private static final String[] FORBIDDEN = {"\\bthrows?\\b", "\\btry\\b", "\\bcatch\\b", "\\bsynchronized\\b",
        "\\bassert\\b", "->", "::", "\\bpackage\\b", "\\bstatic \\{", "Exact\\b", "\\bSystem\\.(?!arraycopy)", "\\bvar\\b",
        "\\bwhile \\(true\\)", "@", "\\bThread\\b", "\\bObject\\b", "\\bMap\\b", "\\bRandom\\b"};
    private static final String FACE = "[arg(int):boolean, compile():int, feed(int):boolean, load():int, peekMem(int):int, "
        + "rcode(int):int, rcodeLen():int, reset():void, result():int, run(int):int, start(int,int):int]";

    public static void main(String[] args) throws Exception {
        String source = Files.readString(Path.of("src/main/java/WasmMachine.java"));
        String code = source.replaceAll("(?s)/\\*.*?\\*/", "").replaceAll("//[^\n]*", "");
        for (String word : FORBIDDEN) {
            Check.due("the source has " + word, Pattern.compile(word).matcher(code).find(), false);
        }
        Matcher imports = Pattern.compile("import ([^;]*);").matcher(code);
        while (imports.find()) {
            Check.due("import " + imports.group(1), imports.group(1).equals("java.util.Arrays"), true);
        }
        methodsAreShort(code);
        theFaceIsTheDocuments();
        classesAreSmall();
        Check.finish();
    }

    private static void methodsAreShort(String code) {
        String[] lines = code.split("\n");
        int began = 0;
        for (int i = 0; i < lines.length; i++) {
            if (lines[i].matches(" {4,8}(?!private static final class|private abstract).*\\) \\{")) {
                began = i;
            } else if (lines[i].matches(" {4,8}}")) {
                Check.due("lines of " + lines[began].trim(), i - began <= 61 || lines[began].contains("class"), true);
            }
        }
    }

    private static void theFaceIsTheDocuments() {
        TreeSet<String> names = new TreeSet<>();
        for (Method method : WasmMachine.class.getDeclaredMethods()) {
            if (!Modifier.isPrivate(method.getModifiers())) {
                String parameters = "";
                for (Class<?> parameter : method.getParameterTypes()) {
                    parameters += (parameters.isEmpty() ? "" : ",") + parameter.getName();
                }
                names.add(method.getName() + "(" + parameters + "):" + method.getReturnType().getName());
            }
        }
        Check.due("the face is " + names, names.toString().equals(FACE), true);
        for (Field field : WasmMachine.class.getDeclaredFields()) {
            Check.due("field " + field.getName() + " is private", Modifier.isPrivate(field.getModifiers()), true);
        }
        Check.due("one constructor", WasmMachine.class.getDeclaredConstructors().length, 1);
        Check.due("public and final", WasmMachine.class.getModifiers(), Modifier.PUBLIC | Modifier.FINAL);
    }

    private static void classesAreSmall() {
        Class<?>[] inside = WasmMachine.class.getDeclaredClasses();
        Check.due("the number of classes", inside.length <= 12, true);
        for (Class<?> one : inside) {
            Check.due(one + " is static", Modifier.isStatic(one.getModifiers()), true);
            int fields = 0;
            for (Field field : one.getDeclaredFields()) {
                boolean fixed = Modifier.isStatic(field.getModifiers());
                Check.due(field + " is final if it is static", !fixed || Modifier.isFinal(field.getModifiers()), true);
                fields += fixed ? 0 : 1;
            }
            Check.due("fields of " + one, fields <= 20, true);
            for (Method method : one.getDeclaredMethods()) {
                Check.due("parameters of " + method, method.getParameterCount() <= 7, true);
                Check.due(method + " bears no name of the face", FACE.replace("[", " ").contains(" " + method.getName() + "("), false);
            }
            for (Constructor<?> constructor : one.getDeclaredConstructors()) {
                Check.due("parameters of " + constructor, constructor.getParameterCount() <= 7, true);
            }
        }
    }
}
