import java.lang.reflect.Member;
import java.lang.reflect.Method;
import java.lang.reflect.Modifier;
import java.nio.file.Files;
import java.nio.file.Path;
import java.util.ArrayList;
import java.util.Arrays;
import java.util.Collections;
import java.util.List;
import java.util.regex.Matcher;
import java.util.regex.Pattern;

/** The public face of the document, and those rules of LANGUAGE.md that can be seen in the source. */
public final class FaceTest {
    private static final String FACE = "int feed(int,int,int,int,int);int back(int);int read();int place();"
        + "int fruit(int,int);int buyer(int,int);int tells(int,int);boolean go(int,int);boolean prop(int,boolean);"
        + "int shake(int);int hours(int);boolean undo();int hangsOn(int,int,boolean);int mean(int,int,int);"
        + "int stand(int,int,int);int props(int,int);int shakes(int,int);int passes(int,int);int windIn(int);"
        + "int next(boolean);int catcher(int);int then(int,int,int);int paid(int,int);int much(int,int);"
        + "int last(int);int asleep();int year(int,int,int,int);int tell(int,int);int forget();int rows(int);"
        + "int sure(int,int);int ask(int);boolean hold(int);boolean restore(int);int count(int)";

    public static void main(String[] args) throws Exception {
        face();
        String source = Files.readString(Path.of(System.getProperty("source", "src/main/java/FallMarket.java")));
        words(source);
        methods(source);
        Check.end("FaceTest");
    }

    private static void face() {
        Class<?> type = FallMarket.class;
        Check.due("public final", true, Modifier.isPublic(type.getModifiers()) && Modifier.isFinal(type.getModifiers()));
        List<String> wanted = new ArrayList<>(Arrays.asList(FACE.split(";")));
        List<String> found = new ArrayList<>();
        for (Method method : type.getDeclaredMethods()) {
            if (!Modifier.isPrivate(method.getModifiers())) {
                List<String> types = new ArrayList<>();
                for (Class<?> parameter : method.getParameterTypes()) {
                    types.add(parameter.getSimpleName());
                }
                found.add(method.getReturnType().getSimpleName() + " " + method.getName() + "(" + String.join(",", types) + ")");
            }
        }
        Collections.sort(wanted);
        Collections.sort(found);
        Check.due("methods " + found, true, wanted.equals(found));
        int open = 0;
        for (Member field : type.getDeclaredFields()) {
            open += Modifier.isPrivate(field.getModifiers()) ? 0 : 1;
        }
        Check.due("open fields", 1, open);
        Check.due("NONE", -1, FallMarket.NONE);
        Check.due("constructors", 1, type.getDeclaredConstructors().length);
        for (Class<?> inner : type.getDeclaredClasses()) {
            Check.due(inner + " static", true, Modifier.isStatic(inner.getModifiers()));
            for (Method method : inner.getDeclaredMethods()) {
                Check.due("name of " + method, false, FACE.contains(" " + method.getName() + "("));
            }
        }
        Check.due("some twelve classes", true, type.getDeclaredClasses().length < 12);
    }

    private static void words(String source) {
        String bare = source.replaceAll("(?s)/\\*.*?\\*/", "").replaceAll("//[^\n]*", "");
        String[] barred = {"throw", "try", "catch", "synchronized", "assert", "transient", "volatile", "native", "Object",
            "HashMap", "Random", "Thread", "File", "System\\.(?!arraycopy)\\w+", "\\w+Exact", "->", "::", "hashCode", "toString"};
        for (String word : barred) {
            String pattern = Character.isLetter(word.charAt(0)) ? "\\b" + word + "\\b" : word;
            Check.due("'" + word + "' in the source", false, Pattern.compile(pattern).matcher(bare).find());
        }
        Matcher imports = Pattern.compile("import ([^;]*);").matcher(source);
        while (imports.find()) {
            Check.due(imports.group(), true, List.of("java.util.Arrays", "java.util.ArrayList", "java.util.List").contains(imports.group(1)));
        }
        for (int i = 0; i < source.length(); i++) {
            Check.due("sign " + i, true, source.charAt(i) < 127);
        }
    }

    private static void methods(String source) {
        String start = "";
        int begun = -1;
        String[] lines = source.split("\n");
        for (int i = 0; i < lines.length; i++) {
            if (begun < 0 && lines[i].matches("^( {4}| {8})[\\w\\[\\] ]+\\(.*\\) \\{$") && !lines[i].matches("^ *(for|if|while|switch) .*")) {
                begun = i;
                start = lines[i].replaceAll("\\S.*", "");
                String inside = lines[i].replaceAll(".*?\\((.*)\\) \\{$", "$1");
                Check.due("parameters of " + lines[i], true, inside.split(",").length <= 7);
            } else if (begun >= 0 && lines[i].equals(start + "}")) {
                Check.due("length of " + lines[begun], true, i - begun <= 60);
                begun = -1;
            }
        }
    }
}
